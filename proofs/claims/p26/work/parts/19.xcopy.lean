/-! copies -/
theorem zcp_ok {μ : zM} (h : zB μ) (d s : Nat) (hds : ∀ z v, zOk s z v → zOk d z v) : zB (zcp μ d s) := by
  intro k z
  by_cases e : k = d
  · subst e
    rw [zcp_eq]
    exact hds z _ (h s z)
  · rw [zcp_ne e]
    exact h k z
/-- a whole state over another: eighteen places -/
def zcs (μ : zM) (d s : Nat) : zM := fun k => match Nat.ble d k && Nat.blt k (d + 18) with
  | true => μ (k - d + s)
  | false => μ k
theorem zcs_ne {μ : zM} {d s k : Nat} (h : k < d ∨ d + 18 ≤ k) : zcs μ d s k = μ k := by
  have e : (Nat.ble d k && Nat.blt k (d + 18)) = false := by
    cases hb : (Nat.ble d k && Nat.blt k (d + 18)) with
    | false => rfl
    | true =>
      rw [Bool.and_eq_true] at hb
      have h1 := Nat.le_of_ble_eq_true hb.1
      have h2 : k + 1 ≤ d + 18 := Nat.le_of_ble_eq_true hb.2
      omega
  simp only [zcs, e]
theorem zcs_in {μ : zM} {d s o : Nat} (h : o < 18) : zcs μ d s (d + o) = μ (s + o) := by
  have e : (Nat.ble d (d + o) && Nat.blt (d + o) (d + 18)) = true := by
    rw [Bool.and_eq_true]
    exact ⟨Nat.ble_eq_true_of_le (by omega), Nat.ble_eq_true_of_le (show d + o + 1 ≤ d + 18 by omega)⟩
  simp only [zcs, e]
  congr 1
  omega
def zst (d : Nat) : Prop := d = 3 ∨ d = 21 ∨ d = 41 ∨ d = 59 ∨ d = 77 ∨ d = 95
theorem zok_st {d o : Nat} (hd : zst d) (ho : o < 18) (z v : Int) : zOk (d + o) z v = zOkS o z v := by
  unfold zOk
  rcases hd with rfl | rfl | rfl | rfl | rfl | rfl
  · rw [if_neg (by omega), if_pos (by omega), show (3 + o - 3) % 18 = o by omega]
  · rw [if_neg (by omega), if_pos (by omega), show (21 + o - 3) % 18 = o by omega]
  · rw [if_neg (by omega), if_neg (by omega), if_neg (by omega), if_pos (by omega), show (41 + o - 41) % 18 = o by omega]
  · rw [if_neg (by omega), if_neg (by omega), if_neg (by omega), if_pos (by omega), show (59 + o - 41) % 18 = o by omega]
  · rw [if_neg (by omega), if_neg (by omega), if_neg (by omega), if_pos (by omega), show (77 + o - 41) % 18 = o by omega]
  · rw [if_neg (by omega), if_neg (by omega), if_neg (by omega), if_pos (by omega), show (95 + o - 41) % 18 = o by omega]
theorem zcs_ok {μ : zM} {d s : Nat} (h : zB μ) (hd : zst d) (hs : zst s) : zB (zcs μ d s) := by
  intro k z
  by_cases e : k < d ∨ d + 18 ≤ k
  · rw [zcs_ne e]; exact h k z
  · obtain ⟨o, ho, rfl⟩ : ∃ o, o < 18 ∧ k = d + o := ⟨k - d, by omega, by omega⟩
    rw [zcs_in ho, zok_st hd ho, ← zok_st hs ho]
    exact h (s + o) z
def zsm (Sh : List zS) (μ μ' : zM) : Prop := ∀ (k : Nat) (sp : zS), Sh[k]? = some sp → match sp with
  | .inl q => ∀ j : Nat, q.2[j]? = some none → μ k j = μ' k j
  | .inr _ => μ k = μ' k
theorem zfs_same {b : Nat} {μ μ' : Int → Int} : ∀ (fs : List (Option (Option Nat))) (i : Nat), (∀ j : Nat, fs[j]? = some none → μ ((i + j : Nat) : Int) = μ' ((i + j : Nat) : Int)) → zfs b μ i fs = zfs b μ' i fs
  | [], _, _ => rfl
  | f :: fs, i, h => by
    have ih := zfs_same fs (i + 1) (b := b) (μ := μ) (μ' := μ') (fun j hj => by have := h (j + 1) (by simpa using hj); rw [show i + 1 + j = i + (j + 1) by omega]; exact this)
    simp only [zfs]
    rw [ih]
    congr 1
    rcases f with _ | _ | r
    · have := h 0 rfl
      simp only [zfv]
      rw [Nat.add_zero] at this
      rw [this]
    · rfl
    · rfl
theorem zsm_cell {Sh : List zS} {μ μ' : zM} {G : zG} (h : zsm Sh μ μ') {k : Nat} {sp : zS} (hk : Sh[k]? = some sp) : zcell G μ k sp = zcell G μ' k sp := by
  have h1 := h k sp hk
  rcases sp with ⟨ci, fs⟩ | ⟨t, n⟩
  · simp only [zcell]
    have e := zfs_same (b := G.1) (μ := μ k) (μ' := μ' k) fs 0 (fun j hj => by simpa using h1 j hj)
    rw [e]
  · simp only [zcell]
    rw [show μ k = μ' k from h1]

def kb_5_copyRow_0 : List zI := [(.aload_n 0, 1, 0, 0), (.iconst 0, 1, 0, 0), (.aload_n 1, 1, 0, 0), (.iconst 0, 1, 0, 0), (.aload_n 0, 1, 0, 0), (.arraylength, 1, 0, 0), (.aload_n 1, 1, 0, 0), (.arraylength, 1, 0, 0)]
theorem kd_5_copyRow_0 : zdec md_5_copyRow 0 kb_5_copyRow_0 = true := by decide +kernel
theorem kr_5_copyRow_8 : decode md_5_copyRow.2.1 8 = .ok (.invokestatic 221, 3) := by decide +kernel
theorem kr_5_copyRow_11 : decode md_5_copyRow.2.1 11 = .ok (.invokestatic 224, 3) := by decide +kernel
theorem kr_5_copyRow_14 : decode md_5_copyRow.2.1 14 = .ok (.return_, 1) := by decide +kernel
theorem xz_copyRow {μ : zM} (s d len : Nat) (hs : zSh[s]? = some (.inr (0, len))) (hd : zSh[d]? = some (.inr (0, len))) (hn : len ≤ 100000) : Dz md_5_copyRow [zr s, zr d] zSh μ none zSh (zcp μ d s) := by
  refine Dz.of (by decide) rfl rfl (show Ez md_5_copyRow 0 0 0 [(0, zr s), (1, zr d)] [] zSh μ none zSh (zcp μ d s) from ?_)
  refine Az.blk kd_5_copyRow_0 ?_
  have key : Ez md_5_copyRow 0 0 8 [(0, zr s), (1, zr d)] [zi (len : Int), zi (len : Int), zi 0, zr d, zi 0, zr s] zSh μ none zSh (zcp μ d s) := by
    refine Az.mmin (a := (len : Int)) (b := (len : Int)) kr_5_copyRow_8 zw_270 rfl (by omega) (by omega) rfl (show Ez md_5_copyRow 0 0 11 [(0, zr s), (1, zr d)] [zi (if (len : Int) < (len : Int) then (len : Int) else (len : Int)), zi 0, zr d, zi 0, zr s] zSh μ _ _ _ from ?_)
    refine Az.copy kr_5_copyRow_11 zw_273 rfl hs hd (by simp) hn rfl ?_
    exact Ez.vret kr_5_copyRow_14 rfl (Nat.zero_le _) (Nat.zero_le _) rfl rfl
  show (match zSh[s]? with | some (.inr (c, n)) => _ | _ => False)
  rw [hs]
  show (match zSh[d]? with | some (.inr (c, n)) => _ | _ => False)
  rw [hd]
  exact key
def kb_4_copyWordsFrom_0 : List zI := [(.aload_n 0, 1, 0, 0), (.aload_n 1, 1, 0, 0), (.getfield 9, 3, 4, 0), (.putfield 9, 3, 4, 0), (.aload_n 1, 1, 0, 0), (.getfield 15, 3, 4, 1), (.aload_n 0, 1, 0, 0), (.getfield 15, 3, 4, 1)]
theorem kd_4_copyWordsFrom_0 : zdec md_4_copyWordsFrom 0 kb_4_copyWordsFrom_0 = true := by decide +kernel
theorem kr_4_copyWordsFrom_16 : decode md_4_copyWordsFrom.2.1 16 = .ok (.invokestatic 31, 3) := by decide +kernel
def kb_4_copyWordsFrom_19 : List zI := [(.aload_n 1, 1, 0, 0), (.getfield 19, 3, 4, 2), (.aload_n 0, 1, 0, 0), (.getfield 19, 3, 4, 2)]
theorem kd_4_copyWordsFrom_19 : zdec md_4_copyWordsFrom 19 kb_4_copyWordsFrom_19 = true := by decide +kernel
theorem kr_4_copyWordsFrom_27 : decode md_4_copyWordsFrom.2.1 27 = .ok (.invokestatic 31, 3) := by decide +kernel
def kb_4_copyWordsFrom_30 : List zI := [(.aload_n 1, 1, 0, 0), (.getfield 22, 3, 4, 3), (.aload_n 0, 1, 0, 0), (.getfield 22, 3, 4, 3)]
theorem kd_4_copyWordsFrom_30 : zdec md_4_copyWordsFrom 30 kb_4_copyWordsFrom_30 = true := by decide +kernel
theorem kr_4_copyWordsFrom_38 : decode md_4_copyWordsFrom.2.1 38 = .ok (.invokestatic 31, 3) := by decide +kernel
def kb_4_copyWordsFrom_41 : List zI := [(.aload_n 1, 1, 0, 0), (.getfield 25, 3, 4, 4), (.aload_n 0, 1, 0, 0), (.getfield 25, 3, 4, 4)]
theorem kd_4_copyWordsFrom_41 : zdec md_4_copyWordsFrom 41 kb_4_copyWordsFrom_41 = true := by decide +kernel
theorem kr_4_copyWordsFrom_49 : decode md_4_copyWordsFrom.2.1 49 = .ok (.invokestatic 31, 3) := by decide +kernel
def kb_4_copyWordsFrom_52 : List zI := [(.aload_n 1, 1, 0, 0), (.getfield 28, 3, 4, 5), (.aload_n 0, 1, 0, 0), (.getfield 28, 3, 4, 5)]
theorem kd_4_copyWordsFrom_52 : zdec md_4_copyWordsFrom 52 kb_4_copyWordsFrom_52 = true := by decide +kernel
theorem kr_4_copyWordsFrom_60 : decode md_4_copyWordsFrom.2.1 60 = .ok (.invokestatic 31, 3) := by decide +kernel
theorem kr_4_copyWordsFrom_63 : decode md_4_copyWordsFrom.2.1 63 = .ok (.return_, 1) := by decide +kernel
set_option maxHeartbeats 4000000 in
set_option maxRecDepth 100000 in
theorem xz_copyWordsFrom_4_22 {μ : zM} : Dz md_4_copyWordsFrom [zr 4, zr 22] zSh μ none zSh (zcp (zcp (zcp (zcp (zcp (zup μ 4 0 (μ 22 0)) 5 23) 6 24) 7 25) 8 26) 9 27) := by
  refine Dz.of (by decide) rfl rfl (show Ez md_4_copyWordsFrom 0 0 0 [(0, zr 4), (1, zr 22)] [] zSh μ none zSh (zcp (zcp (zcp (zcp (zcp (zup μ 4 0 (μ 22 0)) 5 23) 6 24) 7 25) 8 26) 9 27) from ?_)
  refine Az.blk kd_4_copyWordsFrom_0 (show Ez md_4_copyWordsFrom 0 0 16 [(0, zr 4), (1, zr 22)] [zr 5, zr 23] zSh (zup μ 4 0 (μ 22 0)) _ _ _ from ?_)
  refine Az.cSN (mc := md_5_copyRow) (n := 2) (As := [zr 23, zr 5]) (rest := []) kr_4_copyWordsFrom_16 zw_267 ok_5_copyRow rfl rfl (xz_copyRow 23 5 24 rfl rfl (by decide)) rfl rfl (show Ez md_4_copyWordsFrom 0 0 19 [(0, zr 4), (1, zr 22)] [] zSh (zcp (zup μ 4 0 (μ 22 0)) 5 23) _ _ _ from ?_)
  refine Az.blk kd_4_copyWordsFrom_19 (show Ez md_4_copyWordsFrom 0 0 27 [(0, zr 4), (1, zr 22)] [zr 6, zr 24] zSh (zcp (zup μ 4 0 (μ 22 0)) 5 23) _ _ _ from ?_)
  refine Az.cSN (mc := md_5_copyRow) (n := 2) (As := [zr 24, zr 6]) (rest := []) kr_4_copyWordsFrom_27 zw_267 ok_5_copyRow rfl rfl (xz_copyRow 24 6 24 rfl rfl (by decide)) rfl rfl (show Ez md_4_copyWordsFrom 0 0 30 [(0, zr 4), (1, zr 22)] [] zSh (zcp (zcp (zup μ 4 0 (μ 22 0)) 5 23) 6 24) _ _ _ from ?_)
  refine Az.blk kd_4_copyWordsFrom_30 (show Ez md_4_copyWordsFrom 0 0 38 [(0, zr 4), (1, zr 22)] [zr 7, zr 25] zSh (zcp (zcp (zup μ 4 0 (μ 22 0)) 5 23) 6 24) _ _ _ from ?_)
  refine Az.cSN (mc := md_5_copyRow) (n := 2) (As := [zr 25, zr 7]) (rest := []) kr_4_copyWordsFrom_38 zw_267 ok_5_copyRow rfl rfl (xz_copyRow 25 7 24 rfl rfl (by decide)) rfl rfl (show Ez md_4_copyWordsFrom 0 0 41 [(0, zr 4), (1, zr 22)] [] zSh (zcp (zcp (zcp (zup μ 4 0 (μ 22 0)) 5 23) 6 24) 7 25) _ _ _ from ?_)
  refine Az.blk kd_4_copyWordsFrom_41 (show Ez md_4_copyWordsFrom 0 0 49 [(0, zr 4), (1, zr 22)] [zr 8, zr 26] zSh (zcp (zcp (zcp (zup μ 4 0 (μ 22 0)) 5 23) 6 24) 7 25) _ _ _ from ?_)
  refine Az.cSN (mc := md_5_copyRow) (n := 2) (As := [zr 26, zr 8]) (rest := []) kr_4_copyWordsFrom_49 zw_267 ok_5_copyRow rfl rfl (xz_copyRow 26 8 192 rfl rfl (by decide)) rfl rfl (show Ez md_4_copyWordsFrom 0 0 52 [(0, zr 4), (1, zr 22)] [] zSh (zcp (zcp (zcp (zcp (zup μ 4 0 (μ 22 0)) 5 23) 6 24) 7 25) 8 26) _ _ _ from ?_)
  refine Az.blk kd_4_copyWordsFrom_52 (show Ez md_4_copyWordsFrom 0 0 60 [(0, zr 4), (1, zr 22)] [zr 9, zr 27] zSh (zcp (zcp (zcp (zcp (zup μ 4 0 (μ 22 0)) 5 23) 6 24) 7 25) 8 26) _ _ _ from ?_)
  refine Az.cSN (mc := md_5_copyRow) (n := 2) (As := [zr 27, zr 9]) (rest := []) kr_4_copyWordsFrom_60 zw_267 ok_5_copyRow rfl rfl (xz_copyRow 27 9 18 rfl rfl (by decide)) rfl rfl (show Ez md_4_copyWordsFrom 0 0 63 [(0, zr 4), (1, zr 22)] [] zSh (zcp (zcp (zcp (zcp (zcp (zup μ 4 0 (μ 22 0)) 5 23) 6 24) 7 25) 8 26) 9 27) _ _ _ from ?_)
  exact Ez.vret kr_4_copyWordsFrom_63 rfl (Nat.zero_le _) (Nat.zero_le _) rfl rfl
def kb_2_copyTaleFrom_0 : List zI := [(.aload_n 0, 1, 0, 0), (.aload_n 1, 1, 0, 0), (.getfield 9, 3, 2, 0), (.putfield 9, 3, 2, 0), (.aload_n 0, 1, 0, 0), (.aload_n 1, 1, 0, 0), (.getfield 15, 3, 2, 1), (.putfield 15, 3, 2, 1), (.aload_n 1, 1, 0, 0), (.getfield 18, 3, 2, 2), (.aload_n 0, 1, 0, 0), (.getfield 18, 3, 2, 2)]
theorem kd_2_copyTaleFrom_0 : zdec md_2_copyTaleFrom 0 kb_2_copyTaleFrom_0 = true := by decide +kernel
theorem kr_2_copyTaleFrom_24 : decode md_2_copyTaleFrom.2.1 24 = .ok (.invokestatic 43, 3) := by decide +kernel
def kb_2_copyTaleFrom_27 : List zI := [(.aload_n 1, 1, 0, 0), (.getfield 22, 3, 2, 3), (.aload_n 0, 1, 0, 0), (.getfield 22, 3, 2, 3)]
theorem kd_2_copyTaleFrom_27 : zdec md_2_copyTaleFrom 27 kb_2_copyTaleFrom_27 = true := by decide +kernel
theorem kr_2_copyTaleFrom_35 : decode md_2_copyTaleFrom.2.1 35 = .ok (.invokestatic 43, 3) := by decide +kernel
def kb_2_copyTaleFrom_38 : List zI := [(.aload_n 1, 1, 0, 0), (.getfield 25, 3, 2, 4), (.aload_n 0, 1, 0, 0), (.getfield 25, 3, 2, 4)]
theorem kd_2_copyTaleFrom_38 : zdec md_2_copyTaleFrom 38 kb_2_copyTaleFrom_38 = true := by decide +kernel
theorem kr_2_copyTaleFrom_46 : decode md_2_copyTaleFrom.2.1 46 = .ok (.invokestatic 43, 3) := by decide +kernel
def kb_2_copyTaleFrom_49 : List zI := [(.aload_n 1, 1, 0, 0), (.getfield 28, 3, 2, 5), (.aload_n 0, 1, 0, 0), (.getfield 28, 3, 2, 5)]
theorem kd_2_copyTaleFrom_49 : zdec md_2_copyTaleFrom 49 kb_2_copyTaleFrom_49 = true := by decide +kernel
theorem kr_2_copyTaleFrom_57 : decode md_2_copyTaleFrom.2.1 57 = .ok (.invokestatic 43, 3) := by decide +kernel
def kb_2_copyTaleFrom_60 : List zI := [(.aload_n 1, 1, 0, 0), (.getfield 31, 3, 2, 6), (.aload_n 0, 1, 0, 0), (.getfield 31, 3, 2, 6)]
theorem kd_2_copyTaleFrom_60 : zdec md_2_copyTaleFrom 60 kb_2_copyTaleFrom_60 = true := by decide +kernel
theorem kr_2_copyTaleFrom_68 : decode md_2_copyTaleFrom.2.1 68 = .ok (.invokestatic 43, 3) := by decide +kernel
def kb_2_copyTaleFrom_71 : List zI := [(.aload_n 1, 1, 0, 0), (.getfield 34, 3, 2, 7), (.aload_n 0, 1, 0, 0), (.getfield 34, 3, 2, 7)]
theorem kd_2_copyTaleFrom_71 : zdec md_2_copyTaleFrom 71 kb_2_copyTaleFrom_71 = true := by decide +kernel
theorem kr_2_copyTaleFrom_79 : decode md_2_copyTaleFrom.2.1 79 = .ok (.invokestatic 43, 3) := by decide +kernel
def kb_2_copyTaleFrom_82 : List zI := [(.aload_n 1, 1, 0, 0), (.getfield 37, 3, 2, 8), (.aload_n 0, 1, 0, 0), (.getfield 37, 3, 2, 8)]
theorem kd_2_copyTaleFrom_82 : zdec md_2_copyTaleFrom 82 kb_2_copyTaleFrom_82 = true := by decide +kernel
theorem kr_2_copyTaleFrom_90 : decode md_2_copyTaleFrom.2.1 90 = .ok (.invokestatic 43, 3) := by decide +kernel
def kb_2_copyTaleFrom_93 : List zI := [(.aload_n 1, 1, 0, 0), (.getfield 40, 3, 2, 9), (.aload_n 0, 1, 0, 0), (.getfield 40, 3, 2, 9)]
theorem kd_2_copyTaleFrom_93 : zdec md_2_copyTaleFrom 93 kb_2_copyTaleFrom_93 = true := by decide +kernel
theorem kr_2_copyTaleFrom_101 : decode md_2_copyTaleFrom.2.1 101 = .ok (.invokestatic 43, 3) := by decide +kernel
theorem kr_2_copyTaleFrom_104 : decode md_2_copyTaleFrom.2.1 104 = .ok (.return_, 1) := by decide +kernel
set_option maxHeartbeats 4000000 in
set_option maxRecDepth 100000 in
theorem xz_copyTaleFrom_10_28 {μ : zM} : Dz md_2_copyTaleFrom [zr 10, zr 28] zSh μ none zSh (zcp (zcp (zcp (zcp (zcp (zcp (zcp (zcp (zup (zup μ 10 0 (μ 28 0)) 10 1 (μ 28 1)) 11 29) 12 30) 13 31) 14 32) 15 33) 16 34) 17 35) 18 36) := by
  refine Dz.of (by decide) rfl rfl (show Ez md_2_copyTaleFrom 0 0 0 [(0, zr 10), (1, zr 28)] [] zSh μ none zSh (zcp (zcp (zcp (zcp (zcp (zcp (zcp (zcp (zup (zup μ 10 0 (μ 28 0)) 10 1 (μ 28 1)) 11 29) 12 30) 13 31) 14 32) 15 33) 16 34) 17 35) 18 36) from ?_)
  refine Az.blk kd_2_copyTaleFrom_0 (show Ez md_2_copyTaleFrom 0 0 24 [(0, zr 10), (1, zr 28)] [zr 11, zr 29] zSh (zup (zup μ 10 0 (μ 28 0)) 10 1 (μ 28 1)) _ _ _ from ?_)
  refine Az.cSN (mc := md_5_copyRow) (n := 2) (As := [zr 29, zr 11]) (rest := []) kr_2_copyTaleFrom_24 zw_280 ok_5_copyRow rfl rfl (xz_copyRow 29 11 20 rfl rfl (by decide)) rfl rfl (show Ez md_2_copyTaleFrom 0 0 27 [(0, zr 10), (1, zr 28)] [] zSh (zcp (zup (zup μ 10 0 (μ 28 0)) 10 1 (μ 28 1)) 11 29) _ _ _ from ?_)
  refine Az.blk kd_2_copyTaleFrom_27 (show Ez md_2_copyTaleFrom 0 0 35 [(0, zr 10), (1, zr 28)] [zr 12, zr 30] zSh (zcp (zup (zup μ 10 0 (μ 28 0)) 10 1 (μ 28 1)) 11 29) _ _ _ from ?_)
  refine Az.cSN (mc := md_5_copyRow) (n := 2) (As := [zr 30, zr 12]) (rest := []) kr_2_copyTaleFrom_35 zw_280 ok_5_copyRow rfl rfl (xz_copyRow 30 12 20 rfl rfl (by decide)) rfl rfl (show Ez md_2_copyTaleFrom 0 0 38 [(0, zr 10), (1, zr 28)] [] zSh (zcp (zcp (zup (zup μ 10 0 (μ 28 0)) 10 1 (μ 28 1)) 11 29) 12 30) _ _ _ from ?_)
  refine Az.blk kd_2_copyTaleFrom_38 (show Ez md_2_copyTaleFrom 0 0 46 [(0, zr 10), (1, zr 28)] [zr 13, zr 31] zSh (zcp (zcp (zup (zup μ 10 0 (μ 28 0)) 10 1 (μ 28 1)) 11 29) 12 30) _ _ _ from ?_)
  refine Az.cSN (mc := md_5_copyRow) (n := 2) (As := [zr 31, zr 13]) (rest := []) kr_2_copyTaleFrom_46 zw_280 ok_5_copyRow rfl rfl (xz_copyRow 31 13 20 rfl rfl (by decide)) rfl rfl (show Ez md_2_copyTaleFrom 0 0 49 [(0, zr 10), (1, zr 28)] [] zSh (zcp (zcp (zcp (zup (zup μ 10 0 (μ 28 0)) 10 1 (μ 28 1)) 11 29) 12 30) 13 31) _ _ _ from ?_)
  refine Az.blk kd_2_copyTaleFrom_49 (show Ez md_2_copyTaleFrom 0 0 57 [(0, zr 10), (1, zr 28)] [zr 14, zr 32] zSh (zcp (zcp (zcp (zup (zup μ 10 0 (μ 28 0)) 10 1 (μ 28 1)) 11 29) 12 30) 13 31) _ _ _ from ?_)
  refine Az.cSN (mc := md_5_copyRow) (n := 2) (As := [zr 32, zr 14]) (rest := []) kr_2_copyTaleFrom_57 zw_280 ok_5_copyRow rfl rfl (xz_copyRow 32 14 60 rfl rfl (by decide)) rfl rfl (show Ez md_2_copyTaleFrom 0 0 60 [(0, zr 10), (1, zr 28)] [] zSh (zcp (zcp (zcp (zcp (zup (zup μ 10 0 (μ 28 0)) 10 1 (μ 28 1)) 11 29) 12 30) 13 31) 14 32) _ _ _ from ?_)
  refine Az.blk kd_2_copyTaleFrom_60 (show Ez md_2_copyTaleFrom 0 0 68 [(0, zr 10), (1, zr 28)] [zr 15, zr 33] zSh (zcp (zcp (zcp (zcp (zup (zup μ 10 0 (μ 28 0)) 10 1 (μ 28 1)) 11 29) 12 30) 13 31) 14 32) _ _ _ from ?_)
  refine Az.cSN (mc := md_5_copyRow) (n := 2) (As := [zr 33, zr 15]) (rest := []) kr_2_copyTaleFrom_68 zw_280 ok_5_copyRow rfl rfl (xz_copyRow 33 15 20 rfl rfl (by decide)) rfl rfl (show Ez md_2_copyTaleFrom 0 0 71 [(0, zr 10), (1, zr 28)] [] zSh (zcp (zcp (zcp (zcp (zcp (zup (zup μ 10 0 (μ 28 0)) 10 1 (μ 28 1)) 11 29) 12 30) 13 31) 14 32) 15 33) _ _ _ from ?_)
  refine Az.blk kd_2_copyTaleFrom_71 (show Ez md_2_copyTaleFrom 0 0 79 [(0, zr 10), (1, zr 28)] [zr 16, zr 34] zSh (zcp (zcp (zcp (zcp (zcp (zup (zup μ 10 0 (μ 28 0)) 10 1 (μ 28 1)) 11 29) 12 30) 13 31) 14 32) 15 33) _ _ _ from ?_)
  refine Az.cSN (mc := md_5_copyRow) (n := 2) (As := [zr 34, zr 16]) (rest := []) kr_2_copyTaleFrom_79 zw_280 ok_5_copyRow rfl rfl (xz_copyRow 34 16 20 rfl rfl (by decide)) rfl rfl (show Ez md_2_copyTaleFrom 0 0 82 [(0, zr 10), (1, zr 28)] [] zSh (zcp (zcp (zcp (zcp (zcp (zcp (zup (zup μ 10 0 (μ 28 0)) 10 1 (μ 28 1)) 11 29) 12 30) 13 31) 14 32) 15 33) 16 34) _ _ _ from ?_)
  refine Az.blk kd_2_copyTaleFrom_82 (show Ez md_2_copyTaleFrom 0 0 90 [(0, zr 10), (1, zr 28)] [zr 17, zr 35] zSh (zcp (zcp (zcp (zcp (zcp (zcp (zup (zup μ 10 0 (μ 28 0)) 10 1 (μ 28 1)) 11 29) 12 30) 13 31) 14 32) 15 33) 16 34) _ _ _ from ?_)
  refine Az.cSN (mc := md_5_copyRow) (n := 2) (As := [zr 35, zr 17]) (rest := []) kr_2_copyTaleFrom_90 zw_280 ok_5_copyRow rfl rfl (xz_copyRow 35 17 20 rfl rfl (by decide)) rfl rfl (show Ez md_2_copyTaleFrom 0 0 93 [(0, zr 10), (1, zr 28)] [] zSh (zcp (zcp (zcp (zcp (zcp (zcp (zcp (zup (zup μ 10 0 (μ 28 0)) 10 1 (μ 28 1)) 11 29) 12 30) 13 31) 14 32) 15 33) 16 34) 17 35) _ _ _ from ?_)
  refine Az.blk kd_2_copyTaleFrom_93 (show Ez md_2_copyTaleFrom 0 0 101 [(0, zr 10), (1, zr 28)] [zr 18, zr 36] zSh (zcp (zcp (zcp (zcp (zcp (zcp (zcp (zup (zup μ 10 0 (μ 28 0)) 10 1 (μ 28 1)) 11 29) 12 30) 13 31) 14 32) 15 33) 16 34) 17 35) _ _ _ from ?_)
  refine Az.cSN (mc := md_5_copyRow) (n := 2) (As := [zr 36, zr 18]) (rest := []) kr_2_copyTaleFrom_101 zw_280 ok_5_copyRow rfl rfl (xz_copyRow 36 18 20 rfl rfl (by decide)) rfl rfl (show Ez md_2_copyTaleFrom 0 0 104 [(0, zr 10), (1, zr 28)] [] zSh (zcp (zcp (zcp (zcp (zcp (zcp (zcp (zcp (zup (zup μ 10 0 (μ 28 0)) 10 1 (μ 28 1)) 11 29) 12 30) 13 31) 14 32) 15 33) 16 34) 17 35) 18 36) _ _ _ from ?_)
  exact Ez.vret kr_2_copyTaleFrom_104 rfl (Nat.zero_le _) (Nat.zero_le _) rfl rfl
def kb_1_copyFrom_0 : List zI := [(.aload_n 0, 1, 0, 0), (.getfield 12, 3, 1, 0), (.aload_n 1, 1, 0, 0), (.getfield 12, 3, 1, 0)]
theorem kd_1_copyFrom_0 : zdec md_1_copyFrom 0 kb_1_copyFrom_0 = true := by decide +kernel
theorem kr_1_copyFrom_8 : decode md_1_copyFrom.2.1 8 = .ok (.invokevirtual 39, 3) := by decide +kernel
def kb_1_copyFrom_11 : List zI := [(.aload_n 0, 1, 0, 0), (.getfield 21, 3, 1, 1), (.aload_n 1, 1, 0, 0), (.getfield 21, 3, 1, 1)]
theorem kd_1_copyFrom_11 : zdec md_1_copyFrom 11 kb_1_copyFrom_11 = true := by decide +kernel
theorem kr_1_copyFrom_19 : decode md_1_copyFrom.2.1 19 = .ok (.invokevirtual 43, 3) := by decide +kernel
def kb_1_copyFrom_22 : List zI := [(.aload_n 1, 1, 0, 0), (.getfield 25, 3, 1, 2), (.aload_n 0, 1, 0, 0), (.getfield 25, 3, 1, 2)]
theorem kd_1_copyFrom_22 : zdec md_1_copyFrom 22 kb_1_copyFrom_22 = true := by decide +kernel
theorem kr_1_copyFrom_30 : decode md_1_copyFrom.2.1 30 = .ok (.invokestatic 47, 3) := by decide +kernel
def kb_1_copyFrom_33 : List zI := [(.aload_n 1, 1, 0, 0), (.getfield 29, 3, 1, 3), (.aload_n 0, 1, 0, 0), (.getfield 29, 3, 1, 3)]
theorem kd_1_copyFrom_33 : zdec md_1_copyFrom 33 kb_1_copyFrom_33 = true := by decide +kernel
theorem kr_1_copyFrom_41 : decode md_1_copyFrom.2.1 41 = .ok (.invokestatic 47, 3) := by decide +kernel
def kb_1_copyFrom_44 : List zI := [(.aload_n 0, 1, 0, 0), (.aload_n 1, 1, 0, 0), (.getfield 32, 3, 1, 4), (.putfield 32, 3, 1, 4), (.aload_n 0, 1, 0, 0), (.aload_n 1, 1, 0, 0), (.getfield 36, 3, 1, 5), (.putfield 36, 3, 1, 5)]
theorem kd_1_copyFrom_44 : zdec md_1_copyFrom 44 kb_1_copyFrom_44 = true := by decide +kernel
theorem kr_1_copyFrom_60 : decode md_1_copyFrom.2.1 60 = .ok (.return_, 1) := by decide +kernel
set_option maxRecDepth 100000 in
theorem zsm_3_21 (μ : zM) : zsm zSh (zup (zup (zcp (zcp (zcp (zcp (zcp (zcp (zcp (zcp (zcp (zcp (zup (zup (zcp (zcp (zcp (zcp (zcp (zup μ 4 0 (μ 22 0)) 5 23) 6 24) 7 25) 8 26) 9 27) 10 0 (μ 28 0)) 10 1 (μ 28 1)) 11 29) 12 30) 13 31) 14 32) 15 33) 16 34) 17 35) 18 36) 19 37) 20 38) 3 4 (μ 21 4)) 3 5 (μ 21 5)) (zcs μ 3 21) := by
  intro k sp hk
  by_cases e : k < 3 ∨ 21 ≤ k
  · have e1 : (zup (zup (zcp (zcp (zcp (zcp (zcp (zcp (zcp (zcp (zcp (zcp (zup (zup (zcp (zcp (zcp (zcp (zcp (zup μ 4 0 (μ 22 0)) 5 23) 6 24) 7 25) 8 26) 9 27) 10 0 (μ 28 0)) 10 1 (μ 28 1)) 11 29) 12 30) 13 31) 14 32) 15 33) 16 34) 17 35) 18 36) 19 37) 20 38) 3 4 (μ 21 4)) 3 5 (μ 21 5)) k = μ k := by
      rw [zup_ne (by omega), zup_ne (by omega), zcp_ne (by omega), zcp_ne (by omega), zcp_ne (by omega), zcp_ne (by omega), zcp_ne (by omega), zcp_ne (by omega), zcp_ne (by omega), zcp_ne (by omega), zcp_ne (by omega), zcp_ne (by omega), zup_ne (by omega), zup_ne (by omega), zcp_ne (by omega), zcp_ne (by omega), zcp_ne (by omega), zcp_ne (by omega), zcp_ne (by omega), zup_ne (by omega)]
    have e2 : zcs μ 3 21 k = μ k := zcs_ne (by omega)
    rcases sp with p | p
    · intro j _; rw [e1, e2]
    · show _ = _; rw [e1, e2]
  · obtain ⟨o, ho, rfl⟩ : ∃ o, o < 18 ∧ k = 3 + o := ⟨k - 3, by omega, by omega⟩
    match o, ho with
    | 0, _ =>
      obtain rfl : (Sum.inl (1, [some (some 4), some (some 10), some (some 19), some (some 20), none, none]) : zS) = sp := Option.some.inj hk
      intro j hj
      match j, hj with
      | 0, h => exact absurd h (by decide)
      | 1, h => exact absurd h (by decide)
      | 2, h => exact absurd h (by decide)
      | 3, h => exact absurd h (by decide)
      | 4, _ => exact (rfl : (zup (zup (zcp (zcp (zcp (zcp (zcp (zcp (zcp (zcp (zcp (zcp (zup (zup (zcp (zcp (zcp (zcp (zcp (zup μ 4 0 (μ 22 0)) 5 23) 6 24) 7 25) 8 26) 9 27) 10 0 (μ 28 0)) 10 1 (μ 28 1)) 11 29) 12 30) 13 31) 14 32) 15 33) 16 34) 17 35) 18 36) 19 37) 20 38) 3 4 (μ 21 4)) 3 5 (μ 21 5)) 3 4 = zcs μ 3 21 3 4)
      | 5, _ => exact (rfl : (zup (zup (zcp (zcp (zcp (zcp (zcp (zcp (zcp (zcp (zcp (zcp (zup (zup (zcp (zcp (zcp (zcp (zcp (zup μ 4 0 (μ 22 0)) 5 23) 6 24) 7 25) 8 26) 9 27) 10 0 (μ 28 0)) 10 1 (μ 28 1)) 11 29) 12 30) 13 31) 14 32) 15 33) 16 34) 17 35) 18 36) 19 37) 20 38) 3 4 (μ 21 4)) 3 5 (μ 21 5)) 3 5 = zcs μ 3 21 3 5)
      | j + 6, h => simp at h
    | 1, _ =>
      obtain rfl : (Sum.inl (4, [none, some (some 5), some (some 6), some (some 7), some (some 8), some (some 9)]) : zS) = sp := Option.some.inj hk
      intro j hj
      match j, hj with
      | 0, _ => exact (rfl : (zup (zup (zcp (zcp (zcp (zcp (zcp (zcp (zcp (zcp (zcp (zcp (zup (zup (zcp (zcp (zcp (zcp (zcp (zup μ 4 0 (μ 22 0)) 5 23) 6 24) 7 25) 8 26) 9 27) 10 0 (μ 28 0)) 10 1 (μ 28 1)) 11 29) 12 30) 13 31) 14 32) 15 33) 16 34) 17 35) 18 36) 19 37) 20 38) 3 4 (μ 21 4)) 3 5 (μ 21 5)) 4 0 = zcs μ 3 21 4 0)
      | 1, h => exact absurd h (by decide)
      | 2, h => exact absurd h (by decide)
      | 3, h => exact absurd h (by decide)
      | 4, h => exact absurd h (by decide)
      | 5, h => exact absurd h (by decide)
      | j + 6, h => simp at h
    | 2, _ =>
      obtain rfl : (Sum.inr (0, 24) : zS) = sp := Option.some.inj hk
      exact (rfl : (zup (zup (zcp (zcp (zcp (zcp (zcp (zcp (zcp (zcp (zcp (zcp (zup (zup (zcp (zcp (zcp (zcp (zcp (zup μ 4 0 (μ 22 0)) 5 23) 6 24) 7 25) 8 26) 9 27) 10 0 (μ 28 0)) 10 1 (μ 28 1)) 11 29) 12 30) 13 31) 14 32) 15 33) 16 34) 17 35) 18 36) 19 37) 20 38) 3 4 (μ 21 4)) 3 5 (μ 21 5)) 5 = zcs μ 3 21 5)
    | 3, _ =>
      obtain rfl : (Sum.inr (0, 24) : zS) = sp := Option.some.inj hk
      exact (rfl : (zup (zup (zcp (zcp (zcp (zcp (zcp (zcp (zcp (zcp (zcp (zcp (zup (zup (zcp (zcp (zcp (zcp (zcp (zup μ 4 0 (μ 22 0)) 5 23) 6 24) 7 25) 8 26) 9 27) 10 0 (μ 28 0)) 10 1 (μ 28 1)) 11 29) 12 30) 13 31) 14 32) 15 33) 16 34) 17 35) 18 36) 19 37) 20 38) 3 4 (μ 21 4)) 3 5 (μ 21 5)) 6 = zcs μ 3 21 6)
    | 4, _ =>
      obtain rfl : (Sum.inr (0, 24) : zS) = sp := Option.some.inj hk
      exact (rfl : (zup (zup (zcp (zcp (zcp (zcp (zcp (zcp (zcp (zcp (zcp (zcp (zup (zup (zcp (zcp (zcp (zcp (zcp (zup μ 4 0 (μ 22 0)) 5 23) 6 24) 7 25) 8 26) 9 27) 10 0 (μ 28 0)) 10 1 (μ 28 1)) 11 29) 12 30) 13 31) 14 32) 15 33) 16 34) 17 35) 18 36) 19 37) 20 38) 3 4 (μ 21 4)) 3 5 (μ 21 5)) 7 = zcs μ 3 21 7)
    | 5, _ =>
      obtain rfl : (Sum.inr (0, 192) : zS) = sp := Option.some.inj hk
      exact (rfl : (zup (zup (zcp (zcp (zcp (zcp (zcp (zcp (zcp (zcp (zcp (zcp (zup (zup (zcp (zcp (zcp (zcp (zcp (zup μ 4 0 (μ 22 0)) 5 23) 6 24) 7 25) 8 26) 9 27) 10 0 (μ 28 0)) 10 1 (μ 28 1)) 11 29) 12 30) 13 31) 14 32) 15 33) 16 34) 17 35) 18 36) 19 37) 20 38) 3 4 (μ 21 4)) 3 5 (μ 21 5)) 8 = zcs μ 3 21 8)
    | 6, _ =>
      obtain rfl : (Sum.inr (0, 18) : zS) = sp := Option.some.inj hk
      exact (rfl : (zup (zup (zcp (zcp (zcp (zcp (zcp (zcp (zcp (zcp (zcp (zcp (zup (zup (zcp (zcp (zcp (zcp (zcp (zup μ 4 0 (μ 22 0)) 5 23) 6 24) 7 25) 8 26) 9 27) 10 0 (μ 28 0)) 10 1 (μ 28 1)) 11 29) 12 30) 13 31) 14 32) 15 33) 16 34) 17 35) 18 36) 19 37) 20 38) 3 4 (μ 21 4)) 3 5 (μ 21 5)) 9 = zcs μ 3 21 9)
    | 7, _ =>
      obtain rfl : (Sum.inl (2, [none, none, some (some 11), some (some 12), some (some 13), some (some 14), some (some 15), some (some 16), some (some 17), some (some 18)]) : zS) = sp := Option.some.inj hk
      intro j hj
      match j, hj with
      | 0, _ => exact (rfl : (zup (zup (zcp (zcp (zcp (zcp (zcp (zcp (zcp (zcp (zcp (zcp (zup (zup (zcp (zcp (zcp (zcp (zcp (zup μ 4 0 (μ 22 0)) 5 23) 6 24) 7 25) 8 26) 9 27) 10 0 (μ 28 0)) 10 1 (μ 28 1)) 11 29) 12 30) 13 31) 14 32) 15 33) 16 34) 17 35) 18 36) 19 37) 20 38) 3 4 (μ 21 4)) 3 5 (μ 21 5)) 10 0 = zcs μ 3 21 10 0)
      | 1, _ => exact (rfl : (zup (zup (zcp (zcp (zcp (zcp (zcp (zcp (zcp (zcp (zcp (zcp (zup (zup (zcp (zcp (zcp (zcp (zcp (zup μ 4 0 (μ 22 0)) 5 23) 6 24) 7 25) 8 26) 9 27) 10 0 (μ 28 0)) 10 1 (μ 28 1)) 11 29) 12 30) 13 31) 14 32) 15 33) 16 34) 17 35) 18 36) 19 37) 20 38) 3 4 (μ 21 4)) 3 5 (μ 21 5)) 10 1 = zcs μ 3 21 10 1)
      | 2, h => exact absurd h (by decide)
      | 3, h => exact absurd h (by decide)
      | 4, h => exact absurd h (by decide)
      | 5, h => exact absurd h (by decide)
      | 6, h => exact absurd h (by decide)
      | 7, h => exact absurd h (by decide)
      | 8, h => exact absurd h (by decide)
      | 9, h => exact absurd h (by decide)
      | j + 10, h => simp at h
    | 8, _ =>
      obtain rfl : (Sum.inr (0, 20) : zS) = sp := Option.some.inj hk
      exact (rfl : (zup (zup (zcp (zcp (zcp (zcp (zcp (zcp (zcp (zcp (zcp (zcp (zup (zup (zcp (zcp (zcp (zcp (zcp (zup μ 4 0 (μ 22 0)) 5 23) 6 24) 7 25) 8 26) 9 27) 10 0 (μ 28 0)) 10 1 (μ 28 1)) 11 29) 12 30) 13 31) 14 32) 15 33) 16 34) 17 35) 18 36) 19 37) 20 38) 3 4 (μ 21 4)) 3 5 (μ 21 5)) 11 = zcs μ 3 21 11)
    | 9, _ =>
      obtain rfl : (Sum.inr (0, 20) : zS) = sp := Option.some.inj hk
      exact (rfl : (zup (zup (zcp (zcp (zcp (zcp (zcp (zcp (zcp (zcp (zcp (zcp (zup (zup (zcp (zcp (zcp (zcp (zcp (zup μ 4 0 (μ 22 0)) 5 23) 6 24) 7 25) 8 26) 9 27) 10 0 (μ 28 0)) 10 1 (μ 28 1)) 11 29) 12 30) 13 31) 14 32) 15 33) 16 34) 17 35) 18 36) 19 37) 20 38) 3 4 (μ 21 4)) 3 5 (μ 21 5)) 12 = zcs μ 3 21 12)
    | 10, _ =>
      obtain rfl : (Sum.inr (0, 20) : zS) = sp := Option.some.inj hk
      exact (rfl : (zup (zup (zcp (zcp (zcp (zcp (zcp (zcp (zcp (zcp (zcp (zcp (zup (zup (zcp (zcp (zcp (zcp (zcp (zup μ 4 0 (μ 22 0)) 5 23) 6 24) 7 25) 8 26) 9 27) 10 0 (μ 28 0)) 10 1 (μ 28 1)) 11 29) 12 30) 13 31) 14 32) 15 33) 16 34) 17 35) 18 36) 19 37) 20 38) 3 4 (μ 21 4)) 3 5 (μ 21 5)) 13 = zcs μ 3 21 13)
    | 11, _ =>
      obtain rfl : (Sum.inr (0, 60) : zS) = sp := Option.some.inj hk
      exact (rfl : (zup (zup (zcp (zcp (zcp (zcp (zcp (zcp (zcp (zcp (zcp (zcp (zup (zup (zcp (zcp (zcp (zcp (zcp (zup μ 4 0 (μ 22 0)) 5 23) 6 24) 7 25) 8 26) 9 27) 10 0 (μ 28 0)) 10 1 (μ 28 1)) 11 29) 12 30) 13 31) 14 32) 15 33) 16 34) 17 35) 18 36) 19 37) 20 38) 3 4 (μ 21 4)) 3 5 (μ 21 5)) 14 = zcs μ 3 21 14)
    | 12, _ =>
      obtain rfl : (Sum.inr (0, 20) : zS) = sp := Option.some.inj hk
      exact (rfl : (zup (zup (zcp (zcp (zcp (zcp (zcp (zcp (zcp (zcp (zcp (zcp (zup (zup (zcp (zcp (zcp (zcp (zcp (zup μ 4 0 (μ 22 0)) 5 23) 6 24) 7 25) 8 26) 9 27) 10 0 (μ 28 0)) 10 1 (μ 28 1)) 11 29) 12 30) 13 31) 14 32) 15 33) 16 34) 17 35) 18 36) 19 37) 20 38) 3 4 (μ 21 4)) 3 5 (μ 21 5)) 15 = zcs μ 3 21 15)
    | 13, _ =>
      obtain rfl : (Sum.inr (0, 20) : zS) = sp := Option.some.inj hk
      exact (rfl : (zup (zup (zcp (zcp (zcp (zcp (zcp (zcp (zcp (zcp (zcp (zcp (zup (zup (zcp (zcp (zcp (zcp (zcp (zup μ 4 0 (μ 22 0)) 5 23) 6 24) 7 25) 8 26) 9 27) 10 0 (μ 28 0)) 10 1 (μ 28 1)) 11 29) 12 30) 13 31) 14 32) 15 33) 16 34) 17 35) 18 36) 19 37) 20 38) 3 4 (μ 21 4)) 3 5 (μ 21 5)) 16 = zcs μ 3 21 16)
    | 14, _ =>
      obtain rfl : (Sum.inr (0, 20) : zS) = sp := Option.some.inj hk
      exact (rfl : (zup (zup (zcp (zcp (zcp (zcp (zcp (zcp (zcp (zcp (zcp (zcp (zup (zup (zcp (zcp (zcp (zcp (zcp (zup μ 4 0 (μ 22 0)) 5 23) 6 24) 7 25) 8 26) 9 27) 10 0 (μ 28 0)) 10 1 (μ 28 1)) 11 29) 12 30) 13 31) 14 32) 15 33) 16 34) 17 35) 18 36) 19 37) 20 38) 3 4 (μ 21 4)) 3 5 (μ 21 5)) 17 = zcs μ 3 21 17)
    | 15, _ =>
      obtain rfl : (Sum.inr (0, 20) : zS) = sp := Option.some.inj hk
      exact (rfl : (zup (zup (zcp (zcp (zcp (zcp (zcp (zcp (zcp (zcp (zcp (zcp (zup (zup (zcp (zcp (zcp (zcp (zcp (zup μ 4 0 (μ 22 0)) 5 23) 6 24) 7 25) 8 26) 9 27) 10 0 (μ 28 0)) 10 1 (μ 28 1)) 11 29) 12 30) 13 31) 14 32) 15 33) 16 34) 17 35) 18 36) 19 37) 20 38) 3 4 (μ 21 4)) 3 5 (μ 21 5)) 18 = zcs μ 3 21 18)
    | 16, _ =>
      obtain rfl : (Sum.inr (0, 10) : zS) = sp := Option.some.inj hk
      exact (rfl : (zup (zup (zcp (zcp (zcp (zcp (zcp (zcp (zcp (zcp (zcp (zcp (zup (zup (zcp (zcp (zcp (zcp (zcp (zup μ 4 0 (μ 22 0)) 5 23) 6 24) 7 25) 8 26) 9 27) 10 0 (μ 28 0)) 10 1 (μ 28 1)) 11 29) 12 30) 13 31) 14 32) 15 33) 16 34) 17 35) 18 36) 19 37) 20 38) 3 4 (μ 21 4)) 3 5 (μ 21 5)) 19 = zcs μ 3 21 19)
    | 17, _ =>
      obtain rfl : (Sum.inr (0, 10) : zS) = sp := Option.some.inj hk
      exact (rfl : (zup (zup (zcp (zcp (zcp (zcp (zcp (zcp (zcp (zcp (zcp (zcp (zup (zup (zcp (zcp (zcp (zcp (zcp (zup μ 4 0 (μ 22 0)) 5 23) 6 24) 7 25) 8 26) 9 27) 10 0 (μ 28 0)) 10 1 (μ 28 1)) 11 29) 12 30) 13 31) 14 32) 15 33) 16 34) 17 35) 18 36) 19 37) 20 38) 3 4 (μ 21 4)) 3 5 (μ 21 5)) 20 = zcs μ 3 21 20)
    | o + 18, h => omega
set_option maxHeartbeats 4000000 in
set_option maxRecDepth 100000 in
theorem xz_copyFrom_3_21 {μ : zM} : Dz md_1_copyFrom [zr 3, zr 21] zSh μ none zSh (zcs μ 3 21) := by
  refine Dz.of (by decide) rfl rfl (show Ez md_1_copyFrom 0 0 0 [(0, zr 3), (1, zr 21)] [] zSh μ none zSh (zcs μ 3 21) from ?_)
  refine Az.blk kd_1_copyFrom_0 (show Ez md_1_copyFrom 0 0 8 [(0, zr 3), (1, zr 21)] [zr 22, zr 4] zSh μ _ _ _ from ?_)
  refine Az.cVN (mc := md_4_copyWordsFrom) (k := 4) (n := 1) (As := [zr 22]) (rest := []) kr_1_copyFrom_8 zw_263 ok_4_copyWordsFrom rfl rfl rfl trivial (xz_copyWordsFrom_4_22) rfl rfl (show Ez md_1_copyFrom 0 0 11 [(0, zr 3), (1, zr 21)] [] zSh (zcp (zcp (zcp (zcp (zcp (zup μ 4 0 (μ 22 0)) 5 23) 6 24) 7 25) 8 26) 9 27) _ _ _ from ?_)
  refine Az.blk kd_1_copyFrom_11 (show Ez md_1_copyFrom 0 0 19 [(0, zr 3), (1, zr 21)] [zr 28, zr 10] zSh (zcp (zcp (zcp (zcp (zcp (zup μ 4 0 (μ 22 0)) 5 23) 6 24) 7 25) 8 26) 9 27) _ _ _ from ?_)
  refine Az.cVN (mc := md_2_copyTaleFrom) (k := 10) (n := 1) (As := [zr 28]) (rest := []) kr_1_copyFrom_19 zw_276 ok_2_copyTaleFrom rfl rfl rfl trivial (xz_copyTaleFrom_10_28) rfl rfl (show Ez md_1_copyFrom 0 0 22 [(0, zr 3), (1, zr 21)] [] zSh (zcp (zcp (zcp (zcp (zcp (zcp (zcp (zcp (zup (zup (zcp (zcp (zcp (zcp (zcp (zup μ 4 0 (μ 22 0)) 5 23) 6 24) 7 25) 8 26) 9 27) 10 0 (μ 28 0)) 10 1 (μ 28 1)) 11 29) 12 30) 13 31) 14 32) 15 33) 16 34) 17 35) 18 36) _ _ _ from ?_)
  refine Az.blk kd_1_copyFrom_22 (show Ez md_1_copyFrom 0 0 30 [(0, zr 3), (1, zr 21)] [zr 19, zr 37] zSh (zcp (zcp (zcp (zcp (zcp (zcp (zcp (zcp (zup (zup (zcp (zcp (zcp (zcp (zcp (zup μ 4 0 (μ 22 0)) 5 23) 6 24) 7 25) 8 26) 9 27) 10 0 (μ 28 0)) 10 1 (μ 28 1)) 11 29) 12 30) 13 31) 14 32) 15 33) 16 34) 17 35) 18 36) _ _ _ from ?_)
  refine Az.cSN (mc := md_5_copyRow) (n := 2) (As := [zr 37, zr 19]) (rest := []) kr_1_copyFrom_30 zw_281 ok_5_copyRow rfl rfl (xz_copyRow 37 19 10 rfl rfl (by decide)) rfl rfl (show Ez md_1_copyFrom 0 0 33 [(0, zr 3), (1, zr 21)] [] zSh (zcp (zcp (zcp (zcp (zcp (zcp (zcp (zcp (zcp (zup (zup (zcp (zcp (zcp (zcp (zcp (zup μ 4 0 (μ 22 0)) 5 23) 6 24) 7 25) 8 26) 9 27) 10 0 (μ 28 0)) 10 1 (μ 28 1)) 11 29) 12 30) 13 31) 14 32) 15 33) 16 34) 17 35) 18 36) 19 37) _ _ _ from ?_)
  refine Az.blk kd_1_copyFrom_33 (show Ez md_1_copyFrom 0 0 41 [(0, zr 3), (1, zr 21)] [zr 20, zr 38] zSh (zcp (zcp (zcp (zcp (zcp (zcp (zcp (zcp (zcp (zup (zup (zcp (zcp (zcp (zcp (zcp (zup μ 4 0 (μ 22 0)) 5 23) 6 24) 7 25) 8 26) 9 27) 10 0 (μ 28 0)) 10 1 (μ 28 1)) 11 29) 12 30) 13 31) 14 32) 15 33) 16 34) 17 35) 18 36) 19 37) _ _ _ from ?_)
  refine Az.cSN (mc := md_5_copyRow) (n := 2) (As := [zr 38, zr 20]) (rest := []) kr_1_copyFrom_41 zw_281 ok_5_copyRow rfl rfl (xz_copyRow 38 20 10 rfl rfl (by decide)) rfl rfl (show Ez md_1_copyFrom 0 0 44 [(0, zr 3), (1, zr 21)] [] zSh (zcp (zcp (zcp (zcp (zcp (zcp (zcp (zcp (zcp (zcp (zup (zup (zcp (zcp (zcp (zcp (zcp (zup μ 4 0 (μ 22 0)) 5 23) 6 24) 7 25) 8 26) 9 27) 10 0 (μ 28 0)) 10 1 (μ 28 1)) 11 29) 12 30) 13 31) 14 32) 15 33) 16 34) 17 35) 18 36) 19 37) 20 38) _ _ _ from ?_)
  refine Az.blk kd_1_copyFrom_44 (show Ez md_1_copyFrom 0 0 60 [(0, zr 3), (1, zr 21)] [] zSh (zup (zup (zcp (zcp (zcp (zcp (zcp (zcp (zcp (zcp (zcp (zcp (zup (zup (zcp (zcp (zcp (zcp (zcp (zup μ 4 0 (μ 22 0)) 5 23) 6 24) 7 25) 8 26) 9 27) 10 0 (μ 28 0)) 10 1 (μ 28 1)) 11 29) 12 30) 13 31) 14 32) 15 33) 16 34) 17 35) 18 36) 19 37) 20 38) 3 4 (μ 21 4)) 3 5 (μ 21 5)) _ _ _ from ?_)
  refine Az.mem (μ' := zcs μ 3 21) (fun G k sp H hk h => by rw [← zsm_cell (zsm_3_21 μ) hk]; exact h) ?_
  exact Ez.vret kr_1_copyFrom_60 rfl (Nat.zero_le _) (Nat.zero_le _) rfl rfl
set_option maxHeartbeats 4000000 in
set_option maxRecDepth 100000 in
theorem xz_copyWordsFrom_22_4 {μ : zM} : Dz md_4_copyWordsFrom [zr 22, zr 4] zSh μ none zSh (zcp (zcp (zcp (zcp (zcp (zup μ 22 0 (μ 4 0)) 23 5) 24 6) 25 7) 26 8) 27 9) := by
  refine Dz.of (by decide) rfl rfl (show Ez md_4_copyWordsFrom 0 0 0 [(0, zr 22), (1, zr 4)] [] zSh μ none zSh (zcp (zcp (zcp (zcp (zcp (zup μ 22 0 (μ 4 0)) 23 5) 24 6) 25 7) 26 8) 27 9) from ?_)
  refine Az.blk kd_4_copyWordsFrom_0 (show Ez md_4_copyWordsFrom 0 0 16 [(0, zr 22), (1, zr 4)] [zr 23, zr 5] zSh (zup μ 22 0 (μ 4 0)) _ _ _ from ?_)
  refine Az.cSN (mc := md_5_copyRow) (n := 2) (As := [zr 5, zr 23]) (rest := []) kr_4_copyWordsFrom_16 zw_267 ok_5_copyRow rfl rfl (xz_copyRow 5 23 24 rfl rfl (by decide)) rfl rfl (show Ez md_4_copyWordsFrom 0 0 19 [(0, zr 22), (1, zr 4)] [] zSh (zcp (zup μ 22 0 (μ 4 0)) 23 5) _ _ _ from ?_)
  refine Az.blk kd_4_copyWordsFrom_19 (show Ez md_4_copyWordsFrom 0 0 27 [(0, zr 22), (1, zr 4)] [zr 24, zr 6] zSh (zcp (zup μ 22 0 (μ 4 0)) 23 5) _ _ _ from ?_)
  refine Az.cSN (mc := md_5_copyRow) (n := 2) (As := [zr 6, zr 24]) (rest := []) kr_4_copyWordsFrom_27 zw_267 ok_5_copyRow rfl rfl (xz_copyRow 6 24 24 rfl rfl (by decide)) rfl rfl (show Ez md_4_copyWordsFrom 0 0 30 [(0, zr 22), (1, zr 4)] [] zSh (zcp (zcp (zup μ 22 0 (μ 4 0)) 23 5) 24 6) _ _ _ from ?_)
  refine Az.blk kd_4_copyWordsFrom_30 (show Ez md_4_copyWordsFrom 0 0 38 [(0, zr 22), (1, zr 4)] [zr 25, zr 7] zSh (zcp (zcp (zup μ 22 0 (μ 4 0)) 23 5) 24 6) _ _ _ from ?_)
  refine Az.cSN (mc := md_5_copyRow) (n := 2) (As := [zr 7, zr 25]) (rest := []) kr_4_copyWordsFrom_38 zw_267 ok_5_copyRow rfl rfl (xz_copyRow 7 25 24 rfl rfl (by decide)) rfl rfl (show Ez md_4_copyWordsFrom 0 0 41 [(0, zr 22), (1, zr 4)] [] zSh (zcp (zcp (zcp (zup μ 22 0 (μ 4 0)) 23 5) 24 6) 25 7) _ _ _ from ?_)
  refine Az.blk kd_4_copyWordsFrom_41 (show Ez md_4_copyWordsFrom 0 0 49 [(0, zr 22), (1, zr 4)] [zr 26, zr 8] zSh (zcp (zcp (zcp (zup μ 22 0 (μ 4 0)) 23 5) 24 6) 25 7) _ _ _ from ?_)
  refine Az.cSN (mc := md_5_copyRow) (n := 2) (As := [zr 8, zr 26]) (rest := []) kr_4_copyWordsFrom_49 zw_267 ok_5_copyRow rfl rfl (xz_copyRow 8 26 192 rfl rfl (by decide)) rfl rfl (show Ez md_4_copyWordsFrom 0 0 52 [(0, zr 22), (1, zr 4)] [] zSh (zcp (zcp (zcp (zcp (zup μ 22 0 (μ 4 0)) 23 5) 24 6) 25 7) 26 8) _ _ _ from ?_)
  refine Az.blk kd_4_copyWordsFrom_52 (show Ez md_4_copyWordsFrom 0 0 60 [(0, zr 22), (1, zr 4)] [zr 27, zr 9] zSh (zcp (zcp (zcp (zcp (zup μ 22 0 (μ 4 0)) 23 5) 24 6) 25 7) 26 8) _ _ _ from ?_)
  refine Az.cSN (mc := md_5_copyRow) (n := 2) (As := [zr 9, zr 27]) (rest := []) kr_4_copyWordsFrom_60 zw_267 ok_5_copyRow rfl rfl (xz_copyRow 9 27 18 rfl rfl (by decide)) rfl rfl (show Ez md_4_copyWordsFrom 0 0 63 [(0, zr 22), (1, zr 4)] [] zSh (zcp (zcp (zcp (zcp (zcp (zup μ 22 0 (μ 4 0)) 23 5) 24 6) 25 7) 26 8) 27 9) _ _ _ from ?_)
  exact Ez.vret kr_4_copyWordsFrom_63 rfl (Nat.zero_le _) (Nat.zero_le _) rfl rfl
set_option maxHeartbeats 4000000 in
set_option maxRecDepth 100000 in
theorem xz_copyTaleFrom_28_10 {μ : zM} : Dz md_2_copyTaleFrom [zr 28, zr 10] zSh μ none zSh (zcp (zcp (zcp (zcp (zcp (zcp (zcp (zcp (zup (zup μ 28 0 (μ 10 0)) 28 1 (μ 10 1)) 29 11) 30 12) 31 13) 32 14) 33 15) 34 16) 35 17) 36 18) := by
  refine Dz.of (by decide) rfl rfl (show Ez md_2_copyTaleFrom 0 0 0 [(0, zr 28), (1, zr 10)] [] zSh μ none zSh (zcp (zcp (zcp (zcp (zcp (zcp (zcp (zcp (zup (zup μ 28 0 (μ 10 0)) 28 1 (μ 10 1)) 29 11) 30 12) 31 13) 32 14) 33 15) 34 16) 35 17) 36 18) from ?_)
  refine Az.blk kd_2_copyTaleFrom_0 (show Ez md_2_copyTaleFrom 0 0 24 [(0, zr 28), (1, zr 10)] [zr 29, zr 11] zSh (zup (zup μ 28 0 (μ 10 0)) 28 1 (μ 10 1)) _ _ _ from ?_)
  refine Az.cSN (mc := md_5_copyRow) (n := 2) (As := [zr 11, zr 29]) (rest := []) kr_2_copyTaleFrom_24 zw_280 ok_5_copyRow rfl rfl (xz_copyRow 11 29 20 rfl rfl (by decide)) rfl rfl (show Ez md_2_copyTaleFrom 0 0 27 [(0, zr 28), (1, zr 10)] [] zSh (zcp (zup (zup μ 28 0 (μ 10 0)) 28 1 (μ 10 1)) 29 11) _ _ _ from ?_)
  refine Az.blk kd_2_copyTaleFrom_27 (show Ez md_2_copyTaleFrom 0 0 35 [(0, zr 28), (1, zr 10)] [zr 30, zr 12] zSh (zcp (zup (zup μ 28 0 (μ 10 0)) 28 1 (μ 10 1)) 29 11) _ _ _ from ?_)
  refine Az.cSN (mc := md_5_copyRow) (n := 2) (As := [zr 12, zr 30]) (rest := []) kr_2_copyTaleFrom_35 zw_280 ok_5_copyRow rfl rfl (xz_copyRow 12 30 20 rfl rfl (by decide)) rfl rfl (show Ez md_2_copyTaleFrom 0 0 38 [(0, zr 28), (1, zr 10)] [] zSh (zcp (zcp (zup (zup μ 28 0 (μ 10 0)) 28 1 (μ 10 1)) 29 11) 30 12) _ _ _ from ?_)
  refine Az.blk kd_2_copyTaleFrom_38 (show Ez md_2_copyTaleFrom 0 0 46 [(0, zr 28), (1, zr 10)] [zr 31, zr 13] zSh (zcp (zcp (zup (zup μ 28 0 (μ 10 0)) 28 1 (μ 10 1)) 29 11) 30 12) _ _ _ from ?_)
  refine Az.cSN (mc := md_5_copyRow) (n := 2) (As := [zr 13, zr 31]) (rest := []) kr_2_copyTaleFrom_46 zw_280 ok_5_copyRow rfl rfl (xz_copyRow 13 31 20 rfl rfl (by decide)) rfl rfl (show Ez md_2_copyTaleFrom 0 0 49 [(0, zr 28), (1, zr 10)] [] zSh (zcp (zcp (zcp (zup (zup μ 28 0 (μ 10 0)) 28 1 (μ 10 1)) 29 11) 30 12) 31 13) _ _ _ from ?_)
  refine Az.blk kd_2_copyTaleFrom_49 (show Ez md_2_copyTaleFrom 0 0 57 [(0, zr 28), (1, zr 10)] [zr 32, zr 14] zSh (zcp (zcp (zcp (zup (zup μ 28 0 (μ 10 0)) 28 1 (μ 10 1)) 29 11) 30 12) 31 13) _ _ _ from ?_)
  refine Az.cSN (mc := md_5_copyRow) (n := 2) (As := [zr 14, zr 32]) (rest := []) kr_2_copyTaleFrom_57 zw_280 ok_5_copyRow rfl rfl (xz_copyRow 14 32 60 rfl rfl (by decide)) rfl rfl (show Ez md_2_copyTaleFrom 0 0 60 [(0, zr 28), (1, zr 10)] [] zSh (zcp (zcp (zcp (zcp (zup (zup μ 28 0 (μ 10 0)) 28 1 (μ 10 1)) 29 11) 30 12) 31 13) 32 14) _ _ _ from ?_)
  refine Az.blk kd_2_copyTaleFrom_60 (show Ez md_2_copyTaleFrom 0 0 68 [(0, zr 28), (1, zr 10)] [zr 33, zr 15] zSh (zcp (zcp (zcp (zcp (zup (zup μ 28 0 (μ 10 0)) 28 1 (μ 10 1)) 29 11) 30 12) 31 13) 32 14) _ _ _ from ?_)
  refine Az.cSN (mc := md_5_copyRow) (n := 2) (As := [zr 15, zr 33]) (rest := []) kr_2_copyTaleFrom_68 zw_280 ok_5_copyRow rfl rfl (xz_copyRow 15 33 20 rfl rfl (by decide)) rfl rfl (show Ez md_2_copyTaleFrom 0 0 71 [(0, zr 28), (1, zr 10)] [] zSh (zcp (zcp (zcp (zcp (zcp (zup (zup μ 28 0 (μ 10 0)) 28 1 (μ 10 1)) 29 11) 30 12) 31 13) 32 14) 33 15) _ _ _ from ?_)
  refine Az.blk kd_2_copyTaleFrom_71 (show Ez md_2_copyTaleFrom 0 0 79 [(0, zr 28), (1, zr 10)] [zr 34, zr 16] zSh (zcp (zcp (zcp (zcp (zcp (zup (zup μ 28 0 (μ 10 0)) 28 1 (μ 10 1)) 29 11) 30 12) 31 13) 32 14) 33 15) _ _ _ from ?_)
  refine Az.cSN (mc := md_5_copyRow) (n := 2) (As := [zr 16, zr 34]) (rest := []) kr_2_copyTaleFrom_79 zw_280 ok_5_copyRow rfl rfl (xz_copyRow 16 34 20 rfl rfl (by decide)) rfl rfl (show Ez md_2_copyTaleFrom 0 0 82 [(0, zr 28), (1, zr 10)] [] zSh (zcp (zcp (zcp (zcp (zcp (zcp (zup (zup μ 28 0 (μ 10 0)) 28 1 (μ 10 1)) 29 11) 30 12) 31 13) 32 14) 33 15) 34 16) _ _ _ from ?_)
  refine Az.blk kd_2_copyTaleFrom_82 (show Ez md_2_copyTaleFrom 0 0 90 [(0, zr 28), (1, zr 10)] [zr 35, zr 17] zSh (zcp (zcp (zcp (zcp (zcp (zcp (zup (zup μ 28 0 (μ 10 0)) 28 1 (μ 10 1)) 29 11) 30 12) 31 13) 32 14) 33 15) 34 16) _ _ _ from ?_)
  refine Az.cSN (mc := md_5_copyRow) (n := 2) (As := [zr 17, zr 35]) (rest := []) kr_2_copyTaleFrom_90 zw_280 ok_5_copyRow rfl rfl (xz_copyRow 17 35 20 rfl rfl (by decide)) rfl rfl (show Ez md_2_copyTaleFrom 0 0 93 [(0, zr 28), (1, zr 10)] [] zSh (zcp (zcp (zcp (zcp (zcp (zcp (zcp (zup (zup μ 28 0 (μ 10 0)) 28 1 (μ 10 1)) 29 11) 30 12) 31 13) 32 14) 33 15) 34 16) 35 17) _ _ _ from ?_)
  refine Az.blk kd_2_copyTaleFrom_93 (show Ez md_2_copyTaleFrom 0 0 101 [(0, zr 28), (1, zr 10)] [zr 36, zr 18] zSh (zcp (zcp (zcp (zcp (zcp (zcp (zcp (zup (zup μ 28 0 (μ 10 0)) 28 1 (μ 10 1)) 29 11) 30 12) 31 13) 32 14) 33 15) 34 16) 35 17) _ _ _ from ?_)
  refine Az.cSN (mc := md_5_copyRow) (n := 2) (As := [zr 18, zr 36]) (rest := []) kr_2_copyTaleFrom_101 zw_280 ok_5_copyRow rfl rfl (xz_copyRow 18 36 20 rfl rfl (by decide)) rfl rfl (show Ez md_2_copyTaleFrom 0 0 104 [(0, zr 28), (1, zr 10)] [] zSh (zcp (zcp (zcp (zcp (zcp (zcp (zcp (zcp (zup (zup μ 28 0 (μ 10 0)) 28 1 (μ 10 1)) 29 11) 30 12) 31 13) 32 14) 33 15) 34 16) 35 17) 36 18) _ _ _ from ?_)
  exact Ez.vret kr_2_copyTaleFrom_104 rfl (Nat.zero_le _) (Nat.zero_le _) rfl rfl
set_option maxRecDepth 100000 in
theorem zsm_21_3 (μ : zM) : zsm zSh (zup (zup (zcp (zcp (zcp (zcp (zcp (zcp (zcp (zcp (zcp (zcp (zup (zup (zcp (zcp (zcp (zcp (zcp (zup μ 22 0 (μ 4 0)) 23 5) 24 6) 25 7) 26 8) 27 9) 28 0 (μ 10 0)) 28 1 (μ 10 1)) 29 11) 30 12) 31 13) 32 14) 33 15) 34 16) 35 17) 36 18) 37 19) 38 20) 21 4 (μ 3 4)) 21 5 (μ 3 5)) (zcs μ 21 3) := by
  intro k sp hk
  by_cases e : k < 21 ∨ 39 ≤ k
  · have e1 : (zup (zup (zcp (zcp (zcp (zcp (zcp (zcp (zcp (zcp (zcp (zcp (zup (zup (zcp (zcp (zcp (zcp (zcp (zup μ 22 0 (μ 4 0)) 23 5) 24 6) 25 7) 26 8) 27 9) 28 0 (μ 10 0)) 28 1 (μ 10 1)) 29 11) 30 12) 31 13) 32 14) 33 15) 34 16) 35 17) 36 18) 37 19) 38 20) 21 4 (μ 3 4)) 21 5 (μ 3 5)) k = μ k := by
      rw [zup_ne (by omega), zup_ne (by omega), zcp_ne (by omega), zcp_ne (by omega), zcp_ne (by omega), zcp_ne (by omega), zcp_ne (by omega), zcp_ne (by omega), zcp_ne (by omega), zcp_ne (by omega), zcp_ne (by omega), zcp_ne (by omega), zup_ne (by omega), zup_ne (by omega), zcp_ne (by omega), zcp_ne (by omega), zcp_ne (by omega), zcp_ne (by omega), zcp_ne (by omega), zup_ne (by omega)]
    have e2 : zcs μ 21 3 k = μ k := zcs_ne (by omega)
    rcases sp with p | p
    · intro j _; rw [e1, e2]
    · show _ = _; rw [e1, e2]
  · obtain ⟨o, ho, rfl⟩ : ∃ o, o < 18 ∧ k = 21 + o := ⟨k - 21, by omega, by omega⟩
    match o, ho with
    | 0, _ =>
      obtain rfl : (Sum.inl (1, [some (some 22), some (some 28), some (some 37), some (some 38), none, none]) : zS) = sp := Option.some.inj hk
      intro j hj
      match j, hj with
      | 0, h => exact absurd h (by decide)
      | 1, h => exact absurd h (by decide)
      | 2, h => exact absurd h (by decide)
      | 3, h => exact absurd h (by decide)
      | 4, _ => exact (rfl : (zup (zup (zcp (zcp (zcp (zcp (zcp (zcp (zcp (zcp (zcp (zcp (zup (zup (zcp (zcp (zcp (zcp (zcp (zup μ 22 0 (μ 4 0)) 23 5) 24 6) 25 7) 26 8) 27 9) 28 0 (μ 10 0)) 28 1 (μ 10 1)) 29 11) 30 12) 31 13) 32 14) 33 15) 34 16) 35 17) 36 18) 37 19) 38 20) 21 4 (μ 3 4)) 21 5 (μ 3 5)) 21 4 = zcs μ 21 3 21 4)
      | 5, _ => exact (rfl : (zup (zup (zcp (zcp (zcp (zcp (zcp (zcp (zcp (zcp (zcp (zcp (zup (zup (zcp (zcp (zcp (zcp (zcp (zup μ 22 0 (μ 4 0)) 23 5) 24 6) 25 7) 26 8) 27 9) 28 0 (μ 10 0)) 28 1 (μ 10 1)) 29 11) 30 12) 31 13) 32 14) 33 15) 34 16) 35 17) 36 18) 37 19) 38 20) 21 4 (μ 3 4)) 21 5 (μ 3 5)) 21 5 = zcs μ 21 3 21 5)
      | j + 6, h => simp at h
    | 1, _ =>
      obtain rfl : (Sum.inl (4, [none, some (some 23), some (some 24), some (some 25), some (some 26), some (some 27)]) : zS) = sp := Option.some.inj hk
      intro j hj
      match j, hj with
      | 0, _ => exact (rfl : (zup (zup (zcp (zcp (zcp (zcp (zcp (zcp (zcp (zcp (zcp (zcp (zup (zup (zcp (zcp (zcp (zcp (zcp (zup μ 22 0 (μ 4 0)) 23 5) 24 6) 25 7) 26 8) 27 9) 28 0 (μ 10 0)) 28 1 (μ 10 1)) 29 11) 30 12) 31 13) 32 14) 33 15) 34 16) 35 17) 36 18) 37 19) 38 20) 21 4 (μ 3 4)) 21 5 (μ 3 5)) 22 0 = zcs μ 21 3 22 0)
      | 1, h => exact absurd h (by decide)
      | 2, h => exact absurd h (by decide)
      | 3, h => exact absurd h (by decide)
      | 4, h => exact absurd h (by decide)
      | 5, h => exact absurd h (by decide)
      | j + 6, h => simp at h
    | 2, _ =>
      obtain rfl : (Sum.inr (0, 24) : zS) = sp := Option.some.inj hk
      exact (rfl : (zup (zup (zcp (zcp (zcp (zcp (zcp (zcp (zcp (zcp (zcp (zcp (zup (zup (zcp (zcp (zcp (zcp (zcp (zup μ 22 0 (μ 4 0)) 23 5) 24 6) 25 7) 26 8) 27 9) 28 0 (μ 10 0)) 28 1 (μ 10 1)) 29 11) 30 12) 31 13) 32 14) 33 15) 34 16) 35 17) 36 18) 37 19) 38 20) 21 4 (μ 3 4)) 21 5 (μ 3 5)) 23 = zcs μ 21 3 23)
    | 3, _ =>
      obtain rfl : (Sum.inr (0, 24) : zS) = sp := Option.some.inj hk
      exact (rfl : (zup (zup (zcp (zcp (zcp (zcp (zcp (zcp (zcp (zcp (zcp (zcp (zup (zup (zcp (zcp (zcp (zcp (zcp (zup μ 22 0 (μ 4 0)) 23 5) 24 6) 25 7) 26 8) 27 9) 28 0 (μ 10 0)) 28 1 (μ 10 1)) 29 11) 30 12) 31 13) 32 14) 33 15) 34 16) 35 17) 36 18) 37 19) 38 20) 21 4 (μ 3 4)) 21 5 (μ 3 5)) 24 = zcs μ 21 3 24)
    | 4, _ =>
      obtain rfl : (Sum.inr (0, 24) : zS) = sp := Option.some.inj hk
      exact (rfl : (zup (zup (zcp (zcp (zcp (zcp (zcp (zcp (zcp (zcp (zcp (zcp (zup (zup (zcp (zcp (zcp (zcp (zcp (zup μ 22 0 (μ 4 0)) 23 5) 24 6) 25 7) 26 8) 27 9) 28 0 (μ 10 0)) 28 1 (μ 10 1)) 29 11) 30 12) 31 13) 32 14) 33 15) 34 16) 35 17) 36 18) 37 19) 38 20) 21 4 (μ 3 4)) 21 5 (μ 3 5)) 25 = zcs μ 21 3 25)
    | 5, _ =>
      obtain rfl : (Sum.inr (0, 192) : zS) = sp := Option.some.inj hk
      exact (rfl : (zup (zup (zcp (zcp (zcp (zcp (zcp (zcp (zcp (zcp (zcp (zcp (zup (zup (zcp (zcp (zcp (zcp (zcp (zup μ 22 0 (μ 4 0)) 23 5) 24 6) 25 7) 26 8) 27 9) 28 0 (μ 10 0)) 28 1 (μ 10 1)) 29 11) 30 12) 31 13) 32 14) 33 15) 34 16) 35 17) 36 18) 37 19) 38 20) 21 4 (μ 3 4)) 21 5 (μ 3 5)) 26 = zcs μ 21 3 26)
    | 6, _ =>
      obtain rfl : (Sum.inr (0, 18) : zS) = sp := Option.some.inj hk
      exact (rfl : (zup (zup (zcp (zcp (zcp (zcp (zcp (zcp (zcp (zcp (zcp (zcp (zup (zup (zcp (zcp (zcp (zcp (zcp (zup μ 22 0 (μ 4 0)) 23 5) 24 6) 25 7) 26 8) 27 9) 28 0 (μ 10 0)) 28 1 (μ 10 1)) 29 11) 30 12) 31 13) 32 14) 33 15) 34 16) 35 17) 36 18) 37 19) 38 20) 21 4 (μ 3 4)) 21 5 (μ 3 5)) 27 = zcs μ 21 3 27)
    | 7, _ =>
      obtain rfl : (Sum.inl (2, [none, none, some (some 29), some (some 30), some (some 31), some (some 32), some (some 33), some (some 34), some (some 35), some (some 36)]) : zS) = sp := Option.some.inj hk
      intro j hj
      match j, hj with
      | 0, _ => exact (rfl : (zup (zup (zcp (zcp (zcp (zcp (zcp (zcp (zcp (zcp (zcp (zcp (zup (zup (zcp (zcp (zcp (zcp (zcp (zup μ 22 0 (μ 4 0)) 23 5) 24 6) 25 7) 26 8) 27 9) 28 0 (μ 10 0)) 28 1 (μ 10 1)) 29 11) 30 12) 31 13) 32 14) 33 15) 34 16) 35 17) 36 18) 37 19) 38 20) 21 4 (μ 3 4)) 21 5 (μ 3 5)) 28 0 = zcs μ 21 3 28 0)
      | 1, _ => exact (rfl : (zup (zup (zcp (zcp (zcp (zcp (zcp (zcp (zcp (zcp (zcp (zcp (zup (zup (zcp (zcp (zcp (zcp (zcp (zup μ 22 0 (μ 4 0)) 23 5) 24 6) 25 7) 26 8) 27 9) 28 0 (μ 10 0)) 28 1 (μ 10 1)) 29 11) 30 12) 31 13) 32 14) 33 15) 34 16) 35 17) 36 18) 37 19) 38 20) 21 4 (μ 3 4)) 21 5 (μ 3 5)) 28 1 = zcs μ 21 3 28 1)
      | 2, h => exact absurd h (by decide)
      | 3, h => exact absurd h (by decide)
      | 4, h => exact absurd h (by decide)
      | 5, h => exact absurd h (by decide)
      | 6, h => exact absurd h (by decide)
      | 7, h => exact absurd h (by decide)
      | 8, h => exact absurd h (by decide)
      | 9, h => exact absurd h (by decide)
      | j + 10, h => simp at h
    | 8, _ =>
      obtain rfl : (Sum.inr (0, 20) : zS) = sp := Option.some.inj hk
      exact (rfl : (zup (zup (zcp (zcp (zcp (zcp (zcp (zcp (zcp (zcp (zcp (zcp (zup (zup (zcp (zcp (zcp (zcp (zcp (zup μ 22 0 (μ 4 0)) 23 5) 24 6) 25 7) 26 8) 27 9) 28 0 (μ 10 0)) 28 1 (μ 10 1)) 29 11) 30 12) 31 13) 32 14) 33 15) 34 16) 35 17) 36 18) 37 19) 38 20) 21 4 (μ 3 4)) 21 5 (μ 3 5)) 29 = zcs μ 21 3 29)
    | 9, _ =>
      obtain rfl : (Sum.inr (0, 20) : zS) = sp := Option.some.inj hk
      exact (rfl : (zup (zup (zcp (zcp (zcp (zcp (zcp (zcp (zcp (zcp (zcp (zcp (zup (zup (zcp (zcp (zcp (zcp (zcp (zup μ 22 0 (μ 4 0)) 23 5) 24 6) 25 7) 26 8) 27 9) 28 0 (μ 10 0)) 28 1 (μ 10 1)) 29 11) 30 12) 31 13) 32 14) 33 15) 34 16) 35 17) 36 18) 37 19) 38 20) 21 4 (μ 3 4)) 21 5 (μ 3 5)) 30 = zcs μ 21 3 30)
    | 10, _ =>
      obtain rfl : (Sum.inr (0, 20) : zS) = sp := Option.some.inj hk
      exact (rfl : (zup (zup (zcp (zcp (zcp (zcp (zcp (zcp (zcp (zcp (zcp (zcp (zup (zup (zcp (zcp (zcp (zcp (zcp (zup μ 22 0 (μ 4 0)) 23 5) 24 6) 25 7) 26 8) 27 9) 28 0 (μ 10 0)) 28 1 (μ 10 1)) 29 11) 30 12) 31 13) 32 14) 33 15) 34 16) 35 17) 36 18) 37 19) 38 20) 21 4 (μ 3 4)) 21 5 (μ 3 5)) 31 = zcs μ 21 3 31)
    | 11, _ =>
      obtain rfl : (Sum.inr (0, 60) : zS) = sp := Option.some.inj hk
      exact (rfl : (zup (zup (zcp (zcp (zcp (zcp (zcp (zcp (zcp (zcp (zcp (zcp (zup (zup (zcp (zcp (zcp (zcp (zcp (zup μ 22 0 (μ 4 0)) 23 5) 24 6) 25 7) 26 8) 27 9) 28 0 (μ 10 0)) 28 1 (μ 10 1)) 29 11) 30 12) 31 13) 32 14) 33 15) 34 16) 35 17) 36 18) 37 19) 38 20) 21 4 (μ 3 4)) 21 5 (μ 3 5)) 32 = zcs μ 21 3 32)
    | 12, _ =>
      obtain rfl : (Sum.inr (0, 20) : zS) = sp := Option.some.inj hk
      exact (rfl : (zup (zup (zcp (zcp (zcp (zcp (zcp (zcp (zcp (zcp (zcp (zcp (zup (zup (zcp (zcp (zcp (zcp (zcp (zup μ 22 0 (μ 4 0)) 23 5) 24 6) 25 7) 26 8) 27 9) 28 0 (μ 10 0)) 28 1 (μ 10 1)) 29 11) 30 12) 31 13) 32 14) 33 15) 34 16) 35 17) 36 18) 37 19) 38 20) 21 4 (μ 3 4)) 21 5 (μ 3 5)) 33 = zcs μ 21 3 33)
    | 13, _ =>
      obtain rfl : (Sum.inr (0, 20) : zS) = sp := Option.some.inj hk
      exact (rfl : (zup (zup (zcp (zcp (zcp (zcp (zcp (zcp (zcp (zcp (zcp (zcp (zup (zup (zcp (zcp (zcp (zcp (zcp (zup μ 22 0 (μ 4 0)) 23 5) 24 6) 25 7) 26 8) 27 9) 28 0 (μ 10 0)) 28 1 (μ 10 1)) 29 11) 30 12) 31 13) 32 14) 33 15) 34 16) 35 17) 36 18) 37 19) 38 20) 21 4 (μ 3 4)) 21 5 (μ 3 5)) 34 = zcs μ 21 3 34)
    | 14, _ =>
      obtain rfl : (Sum.inr (0, 20) : zS) = sp := Option.some.inj hk
      exact (rfl : (zup (zup (zcp (zcp (zcp (zcp (zcp (zcp (zcp (zcp (zcp (zcp (zup (zup (zcp (zcp (zcp (zcp (zcp (zup μ 22 0 (μ 4 0)) 23 5) 24 6) 25 7) 26 8) 27 9) 28 0 (μ 10 0)) 28 1 (μ 10 1)) 29 11) 30 12) 31 13) 32 14) 33 15) 34 16) 35 17) 36 18) 37 19) 38 20) 21 4 (μ 3 4)) 21 5 (μ 3 5)) 35 = zcs μ 21 3 35)
    | 15, _ =>
      obtain rfl : (Sum.inr (0, 20) : zS) = sp := Option.some.inj hk
      exact (rfl : (zup (zup (zcp (zcp (zcp (zcp (zcp (zcp (zcp (zcp (zcp (zcp (zup (zup (zcp (zcp (zcp (zcp (zcp (zup μ 22 0 (μ 4 0)) 23 5) 24 6) 25 7) 26 8) 27 9) 28 0 (μ 10 0)) 28 1 (μ 10 1)) 29 11) 30 12) 31 13) 32 14) 33 15) 34 16) 35 17) 36 18) 37 19) 38 20) 21 4 (μ 3 4)) 21 5 (μ 3 5)) 36 = zcs μ 21 3 36)
    | 16, _ =>
      obtain rfl : (Sum.inr (0, 10) : zS) = sp := Option.some.inj hk
      exact (rfl : (zup (zup (zcp (zcp (zcp (zcp (zcp (zcp (zcp (zcp (zcp (zcp (zup (zup (zcp (zcp (zcp (zcp (zcp (zup μ 22 0 (μ 4 0)) 23 5) 24 6) 25 7) 26 8) 27 9) 28 0 (μ 10 0)) 28 1 (μ 10 1)) 29 11) 30 12) 31 13) 32 14) 33 15) 34 16) 35 17) 36 18) 37 19) 38 20) 21 4 (μ 3 4)) 21 5 (μ 3 5)) 37 = zcs μ 21 3 37)
    | 17, _ =>
      obtain rfl : (Sum.inr (0, 10) : zS) = sp := Option.some.inj hk
      exact (rfl : (zup (zup (zcp (zcp (zcp (zcp (zcp (zcp (zcp (zcp (zcp (zcp (zup (zup (zcp (zcp (zcp (zcp (zcp (zup μ 22 0 (μ 4 0)) 23 5) 24 6) 25 7) 26 8) 27 9) 28 0 (μ 10 0)) 28 1 (μ 10 1)) 29 11) 30 12) 31 13) 32 14) 33 15) 34 16) 35 17) 36 18) 37 19) 38 20) 21 4 (μ 3 4)) 21 5 (μ 3 5)) 38 = zcs μ 21 3 38)
    | o + 18, h => omega
set_option maxHeartbeats 4000000 in
set_option maxRecDepth 100000 in
theorem xz_copyFrom_21_3 {μ : zM} : Dz md_1_copyFrom [zr 21, zr 3] zSh μ none zSh (zcs μ 21 3) := by
  refine Dz.of (by decide) rfl rfl (show Ez md_1_copyFrom 0 0 0 [(0, zr 21), (1, zr 3)] [] zSh μ none zSh (zcs μ 21 3) from ?_)
  refine Az.blk kd_1_copyFrom_0 (show Ez md_1_copyFrom 0 0 8 [(0, zr 21), (1, zr 3)] [zr 4, zr 22] zSh μ _ _ _ from ?_)
  refine Az.cVN (mc := md_4_copyWordsFrom) (k := 22) (n := 1) (As := [zr 4]) (rest := []) kr_1_copyFrom_8 zw_263 ok_4_copyWordsFrom rfl rfl rfl trivial (xz_copyWordsFrom_22_4) rfl rfl (show Ez md_1_copyFrom 0 0 11 [(0, zr 21), (1, zr 3)] [] zSh (zcp (zcp (zcp (zcp (zcp (zup μ 22 0 (μ 4 0)) 23 5) 24 6) 25 7) 26 8) 27 9) _ _ _ from ?_)
  refine Az.blk kd_1_copyFrom_11 (show Ez md_1_copyFrom 0 0 19 [(0, zr 21), (1, zr 3)] [zr 10, zr 28] zSh (zcp (zcp (zcp (zcp (zcp (zup μ 22 0 (μ 4 0)) 23 5) 24 6) 25 7) 26 8) 27 9) _ _ _ from ?_)
  refine Az.cVN (mc := md_2_copyTaleFrom) (k := 28) (n := 1) (As := [zr 10]) (rest := []) kr_1_copyFrom_19 zw_276 ok_2_copyTaleFrom rfl rfl rfl trivial (xz_copyTaleFrom_28_10) rfl rfl (show Ez md_1_copyFrom 0 0 22 [(0, zr 21), (1, zr 3)] [] zSh (zcp (zcp (zcp (zcp (zcp (zcp (zcp (zcp (zup (zup (zcp (zcp (zcp (zcp (zcp (zup μ 22 0 (μ 4 0)) 23 5) 24 6) 25 7) 26 8) 27 9) 28 0 (μ 10 0)) 28 1 (μ 10 1)) 29 11) 30 12) 31 13) 32 14) 33 15) 34 16) 35 17) 36 18) _ _ _ from ?_)
  refine Az.blk kd_1_copyFrom_22 (show Ez md_1_copyFrom 0 0 30 [(0, zr 21), (1, zr 3)] [zr 37, zr 19] zSh (zcp (zcp (zcp (zcp (zcp (zcp (zcp (zcp (zup (zup (zcp (zcp (zcp (zcp (zcp (zup μ 22 0 (μ 4 0)) 23 5) 24 6) 25 7) 26 8) 27 9) 28 0 (μ 10 0)) 28 1 (μ 10 1)) 29 11) 30 12) 31 13) 32 14) 33 15) 34 16) 35 17) 36 18) _ _ _ from ?_)
  refine Az.cSN (mc := md_5_copyRow) (n := 2) (As := [zr 19, zr 37]) (rest := []) kr_1_copyFrom_30 zw_281 ok_5_copyRow rfl rfl (xz_copyRow 19 37 10 rfl rfl (by decide)) rfl rfl (show Ez md_1_copyFrom 0 0 33 [(0, zr 21), (1, zr 3)] [] zSh (zcp (zcp (zcp (zcp (zcp (zcp (zcp (zcp (zcp (zup (zup (zcp (zcp (zcp (zcp (zcp (zup μ 22 0 (μ 4 0)) 23 5) 24 6) 25 7) 26 8) 27 9) 28 0 (μ 10 0)) 28 1 (μ 10 1)) 29 11) 30 12) 31 13) 32 14) 33 15) 34 16) 35 17) 36 18) 37 19) _ _ _ from ?_)
  refine Az.blk kd_1_copyFrom_33 (show Ez md_1_copyFrom 0 0 41 [(0, zr 21), (1, zr 3)] [zr 38, zr 20] zSh (zcp (zcp (zcp (zcp (zcp (zcp (zcp (zcp (zcp (zup (zup (zcp (zcp (zcp (zcp (zcp (zup μ 22 0 (μ 4 0)) 23 5) 24 6) 25 7) 26 8) 27 9) 28 0 (μ 10 0)) 28 1 (μ 10 1)) 29 11) 30 12) 31 13) 32 14) 33 15) 34 16) 35 17) 36 18) 37 19) _ _ _ from ?_)
  refine Az.cSN (mc := md_5_copyRow) (n := 2) (As := [zr 20, zr 38]) (rest := []) kr_1_copyFrom_41 zw_281 ok_5_copyRow rfl rfl (xz_copyRow 20 38 10 rfl rfl (by decide)) rfl rfl (show Ez md_1_copyFrom 0 0 44 [(0, zr 21), (1, zr 3)] [] zSh (zcp (zcp (zcp (zcp (zcp (zcp (zcp (zcp (zcp (zcp (zup (zup (zcp (zcp (zcp (zcp (zcp (zup μ 22 0 (μ 4 0)) 23 5) 24 6) 25 7) 26 8) 27 9) 28 0 (μ 10 0)) 28 1 (μ 10 1)) 29 11) 30 12) 31 13) 32 14) 33 15) 34 16) 35 17) 36 18) 37 19) 38 20) _ _ _ from ?_)
  refine Az.blk kd_1_copyFrom_44 (show Ez md_1_copyFrom 0 0 60 [(0, zr 21), (1, zr 3)] [] zSh (zup (zup (zcp (zcp (zcp (zcp (zcp (zcp (zcp (zcp (zcp (zcp (zup (zup (zcp (zcp (zcp (zcp (zcp (zup μ 22 0 (μ 4 0)) 23 5) 24 6) 25 7) 26 8) 27 9) 28 0 (μ 10 0)) 28 1 (μ 10 1)) 29 11) 30 12) 31 13) 32 14) 33 15) 34 16) 35 17) 36 18) 37 19) 38 20) 21 4 (μ 3 4)) 21 5 (μ 3 5)) _ _ _ from ?_)
  refine Az.mem (μ' := zcs μ 21 3) (fun G k sp H hk h => by rw [← zsm_cell (zsm_21_3 μ) hk]; exact h) ?_
  exact Ez.vret kr_1_copyFrom_60 rfl (Nat.zero_le _) (Nat.zero_le _) rfl rfl
set_option maxHeartbeats 4000000 in
set_option maxRecDepth 100000 in
theorem xz_copyWordsFrom_4_42 {μ : zM} : Dz md_4_copyWordsFrom [zr 4, zr 42] zSh μ none zSh (zcp (zcp (zcp (zcp (zcp (zup μ 4 0 (μ 42 0)) 5 43) 6 44) 7 45) 8 46) 9 47) := by
  refine Dz.of (by decide) rfl rfl (show Ez md_4_copyWordsFrom 0 0 0 [(0, zr 4), (1, zr 42)] [] zSh μ none zSh (zcp (zcp (zcp (zcp (zcp (zup μ 4 0 (μ 42 0)) 5 43) 6 44) 7 45) 8 46) 9 47) from ?_)
  refine Az.blk kd_4_copyWordsFrom_0 (show Ez md_4_copyWordsFrom 0 0 16 [(0, zr 4), (1, zr 42)] [zr 5, zr 43] zSh (zup μ 4 0 (μ 42 0)) _ _ _ from ?_)
  refine Az.cSN (mc := md_5_copyRow) (n := 2) (As := [zr 43, zr 5]) (rest := []) kr_4_copyWordsFrom_16 zw_267 ok_5_copyRow rfl rfl (xz_copyRow 43 5 24 rfl rfl (by decide)) rfl rfl (show Ez md_4_copyWordsFrom 0 0 19 [(0, zr 4), (1, zr 42)] [] zSh (zcp (zup μ 4 0 (μ 42 0)) 5 43) _ _ _ from ?_)
  refine Az.blk kd_4_copyWordsFrom_19 (show Ez md_4_copyWordsFrom 0 0 27 [(0, zr 4), (1, zr 42)] [zr 6, zr 44] zSh (zcp (zup μ 4 0 (μ 42 0)) 5 43) _ _ _ from ?_)
  refine Az.cSN (mc := md_5_copyRow) (n := 2) (As := [zr 44, zr 6]) (rest := []) kr_4_copyWordsFrom_27 zw_267 ok_5_copyRow rfl rfl (xz_copyRow 44 6 24 rfl rfl (by decide)) rfl rfl (show Ez md_4_copyWordsFrom 0 0 30 [(0, zr 4), (1, zr 42)] [] zSh (zcp (zcp (zup μ 4 0 (μ 42 0)) 5 43) 6 44) _ _ _ from ?_)
  refine Az.blk kd_4_copyWordsFrom_30 (show Ez md_4_copyWordsFrom 0 0 38 [(0, zr 4), (1, zr 42)] [zr 7, zr 45] zSh (zcp (zcp (zup μ 4 0 (μ 42 0)) 5 43) 6 44) _ _ _ from ?_)
  refine Az.cSN (mc := md_5_copyRow) (n := 2) (As := [zr 45, zr 7]) (rest := []) kr_4_copyWordsFrom_38 zw_267 ok_5_copyRow rfl rfl (xz_copyRow 45 7 24 rfl rfl (by decide)) rfl rfl (show Ez md_4_copyWordsFrom 0 0 41 [(0, zr 4), (1, zr 42)] [] zSh (zcp (zcp (zcp (zup μ 4 0 (μ 42 0)) 5 43) 6 44) 7 45) _ _ _ from ?_)
  refine Az.blk kd_4_copyWordsFrom_41 (show Ez md_4_copyWordsFrom 0 0 49 [(0, zr 4), (1, zr 42)] [zr 8, zr 46] zSh (zcp (zcp (zcp (zup μ 4 0 (μ 42 0)) 5 43) 6 44) 7 45) _ _ _ from ?_)
  refine Az.cSN (mc := md_5_copyRow) (n := 2) (As := [zr 46, zr 8]) (rest := []) kr_4_copyWordsFrom_49 zw_267 ok_5_copyRow rfl rfl (xz_copyRow 46 8 192 rfl rfl (by decide)) rfl rfl (show Ez md_4_copyWordsFrom 0 0 52 [(0, zr 4), (1, zr 42)] [] zSh (zcp (zcp (zcp (zcp (zup μ 4 0 (μ 42 0)) 5 43) 6 44) 7 45) 8 46) _ _ _ from ?_)
  refine Az.blk kd_4_copyWordsFrom_52 (show Ez md_4_copyWordsFrom 0 0 60 [(0, zr 4), (1, zr 42)] [zr 9, zr 47] zSh (zcp (zcp (zcp (zcp (zup μ 4 0 (μ 42 0)) 5 43) 6 44) 7 45) 8 46) _ _ _ from ?_)
  refine Az.cSN (mc := md_5_copyRow) (n := 2) (As := [zr 47, zr 9]) (rest := []) kr_4_copyWordsFrom_60 zw_267 ok_5_copyRow rfl rfl (xz_copyRow 47 9 18 rfl rfl (by decide)) rfl rfl (show Ez md_4_copyWordsFrom 0 0 63 [(0, zr 4), (1, zr 42)] [] zSh (zcp (zcp (zcp (zcp (zcp (zup μ 4 0 (μ 42 0)) 5 43) 6 44) 7 45) 8 46) 9 47) _ _ _ from ?_)
  exact Ez.vret kr_4_copyWordsFrom_63 rfl (Nat.zero_le _) (Nat.zero_le _) rfl rfl
set_option maxHeartbeats 4000000 in
set_option maxRecDepth 100000 in
theorem xz_copyTaleFrom_10_48 {μ : zM} : Dz md_2_copyTaleFrom [zr 10, zr 48] zSh μ none zSh (zcp (zcp (zcp (zcp (zcp (zcp (zcp (zcp (zup (zup μ 10 0 (μ 48 0)) 10 1 (μ 48 1)) 11 49) 12 50) 13 51) 14 52) 15 53) 16 54) 17 55) 18 56) := by
  refine Dz.of (by decide) rfl rfl (show Ez md_2_copyTaleFrom 0 0 0 [(0, zr 10), (1, zr 48)] [] zSh μ none zSh (zcp (zcp (zcp (zcp (zcp (zcp (zcp (zcp (zup (zup μ 10 0 (μ 48 0)) 10 1 (μ 48 1)) 11 49) 12 50) 13 51) 14 52) 15 53) 16 54) 17 55) 18 56) from ?_)
  refine Az.blk kd_2_copyTaleFrom_0 (show Ez md_2_copyTaleFrom 0 0 24 [(0, zr 10), (1, zr 48)] [zr 11, zr 49] zSh (zup (zup μ 10 0 (μ 48 0)) 10 1 (μ 48 1)) _ _ _ from ?_)
  refine Az.cSN (mc := md_5_copyRow) (n := 2) (As := [zr 49, zr 11]) (rest := []) kr_2_copyTaleFrom_24 zw_280 ok_5_copyRow rfl rfl (xz_copyRow 49 11 20 rfl rfl (by decide)) rfl rfl (show Ez md_2_copyTaleFrom 0 0 27 [(0, zr 10), (1, zr 48)] [] zSh (zcp (zup (zup μ 10 0 (μ 48 0)) 10 1 (μ 48 1)) 11 49) _ _ _ from ?_)
  refine Az.blk kd_2_copyTaleFrom_27 (show Ez md_2_copyTaleFrom 0 0 35 [(0, zr 10), (1, zr 48)] [zr 12, zr 50] zSh (zcp (zup (zup μ 10 0 (μ 48 0)) 10 1 (μ 48 1)) 11 49) _ _ _ from ?_)
  refine Az.cSN (mc := md_5_copyRow) (n := 2) (As := [zr 50, zr 12]) (rest := []) kr_2_copyTaleFrom_35 zw_280 ok_5_copyRow rfl rfl (xz_copyRow 50 12 20 rfl rfl (by decide)) rfl rfl (show Ez md_2_copyTaleFrom 0 0 38 [(0, zr 10), (1, zr 48)] [] zSh (zcp (zcp (zup (zup μ 10 0 (μ 48 0)) 10 1 (μ 48 1)) 11 49) 12 50) _ _ _ from ?_)
  refine Az.blk kd_2_copyTaleFrom_38 (show Ez md_2_copyTaleFrom 0 0 46 [(0, zr 10), (1, zr 48)] [zr 13, zr 51] zSh (zcp (zcp (zup (zup μ 10 0 (μ 48 0)) 10 1 (μ 48 1)) 11 49) 12 50) _ _ _ from ?_)
  refine Az.cSN (mc := md_5_copyRow) (n := 2) (As := [zr 51, zr 13]) (rest := []) kr_2_copyTaleFrom_46 zw_280 ok_5_copyRow rfl rfl (xz_copyRow 51 13 20 rfl rfl (by decide)) rfl rfl (show Ez md_2_copyTaleFrom 0 0 49 [(0, zr 10), (1, zr 48)] [] zSh (zcp (zcp (zcp (zup (zup μ 10 0 (μ 48 0)) 10 1 (μ 48 1)) 11 49) 12 50) 13 51) _ _ _ from ?_)
  refine Az.blk kd_2_copyTaleFrom_49 (show Ez md_2_copyTaleFrom 0 0 57 [(0, zr 10), (1, zr 48)] [zr 14, zr 52] zSh (zcp (zcp (zcp (zup (zup μ 10 0 (μ 48 0)) 10 1 (μ 48 1)) 11 49) 12 50) 13 51) _ _ _ from ?_)
  refine Az.cSN (mc := md_5_copyRow) (n := 2) (As := [zr 52, zr 14]) (rest := []) kr_2_copyTaleFrom_57 zw_280 ok_5_copyRow rfl rfl (xz_copyRow 52 14 60 rfl rfl (by decide)) rfl rfl (show Ez md_2_copyTaleFrom 0 0 60 [(0, zr 10), (1, zr 48)] [] zSh (zcp (zcp (zcp (zcp (zup (zup μ 10 0 (μ 48 0)) 10 1 (μ 48 1)) 11 49) 12 50) 13 51) 14 52) _ _ _ from ?_)
  refine Az.blk kd_2_copyTaleFrom_60 (show Ez md_2_copyTaleFrom 0 0 68 [(0, zr 10), (1, zr 48)] [zr 15, zr 53] zSh (zcp (zcp (zcp (zcp (zup (zup μ 10 0 (μ 48 0)) 10 1 (μ 48 1)) 11 49) 12 50) 13 51) 14 52) _ _ _ from ?_)
  refine Az.cSN (mc := md_5_copyRow) (n := 2) (As := [zr 53, zr 15]) (rest := []) kr_2_copyTaleFrom_68 zw_280 ok_5_copyRow rfl rfl (xz_copyRow 53 15 20 rfl rfl (by decide)) rfl rfl (show Ez md_2_copyTaleFrom 0 0 71 [(0, zr 10), (1, zr 48)] [] zSh (zcp (zcp (zcp (zcp (zcp (zup (zup μ 10 0 (μ 48 0)) 10 1 (μ 48 1)) 11 49) 12 50) 13 51) 14 52) 15 53) _ _ _ from ?_)
  refine Az.blk kd_2_copyTaleFrom_71 (show Ez md_2_copyTaleFrom 0 0 79 [(0, zr 10), (1, zr 48)] [zr 16, zr 54] zSh (zcp (zcp (zcp (zcp (zcp (zup (zup μ 10 0 (μ 48 0)) 10 1 (μ 48 1)) 11 49) 12 50) 13 51) 14 52) 15 53) _ _ _ from ?_)
  refine Az.cSN (mc := md_5_copyRow) (n := 2) (As := [zr 54, zr 16]) (rest := []) kr_2_copyTaleFrom_79 zw_280 ok_5_copyRow rfl rfl (xz_copyRow 54 16 20 rfl rfl (by decide)) rfl rfl (show Ez md_2_copyTaleFrom 0 0 82 [(0, zr 10), (1, zr 48)] [] zSh (zcp (zcp (zcp (zcp (zcp (zcp (zup (zup μ 10 0 (μ 48 0)) 10 1 (μ 48 1)) 11 49) 12 50) 13 51) 14 52) 15 53) 16 54) _ _ _ from ?_)
  refine Az.blk kd_2_copyTaleFrom_82 (show Ez md_2_copyTaleFrom 0 0 90 [(0, zr 10), (1, zr 48)] [zr 17, zr 55] zSh (zcp (zcp (zcp (zcp (zcp (zcp (zup (zup μ 10 0 (μ 48 0)) 10 1 (μ 48 1)) 11 49) 12 50) 13 51) 14 52) 15 53) 16 54) _ _ _ from ?_)
  refine Az.cSN (mc := md_5_copyRow) (n := 2) (As := [zr 55, zr 17]) (rest := []) kr_2_copyTaleFrom_90 zw_280 ok_5_copyRow rfl rfl (xz_copyRow 55 17 20 rfl rfl (by decide)) rfl rfl (show Ez md_2_copyTaleFrom 0 0 93 [(0, zr 10), (1, zr 48)] [] zSh (zcp (zcp (zcp (zcp (zcp (zcp (zcp (zup (zup μ 10 0 (μ 48 0)) 10 1 (μ 48 1)) 11 49) 12 50) 13 51) 14 52) 15 53) 16 54) 17 55) _ _ _ from ?_)
  refine Az.blk kd_2_copyTaleFrom_93 (show Ez md_2_copyTaleFrom 0 0 101 [(0, zr 10), (1, zr 48)] [zr 18, zr 56] zSh (zcp (zcp (zcp (zcp (zcp (zcp (zcp (zup (zup μ 10 0 (μ 48 0)) 10 1 (μ 48 1)) 11 49) 12 50) 13 51) 14 52) 15 53) 16 54) 17 55) _ _ _ from ?_)
  refine Az.cSN (mc := md_5_copyRow) (n := 2) (As := [zr 56, zr 18]) (rest := []) kr_2_copyTaleFrom_101 zw_280 ok_5_copyRow rfl rfl (xz_copyRow 56 18 20 rfl rfl (by decide)) rfl rfl (show Ez md_2_copyTaleFrom 0 0 104 [(0, zr 10), (1, zr 48)] [] zSh (zcp (zcp (zcp (zcp (zcp (zcp (zcp (zcp (zup (zup μ 10 0 (μ 48 0)) 10 1 (μ 48 1)) 11 49) 12 50) 13 51) 14 52) 15 53) 16 54) 17 55) 18 56) _ _ _ from ?_)
  exact Ez.vret kr_2_copyTaleFrom_104 rfl (Nat.zero_le _) (Nat.zero_le _) rfl rfl
set_option maxRecDepth 100000 in
theorem zsm_3_41 (μ : zM) : zsm zSh (zup (zup (zcp (zcp (zcp (zcp (zcp (zcp (zcp (zcp (zcp (zcp (zup (zup (zcp (zcp (zcp (zcp (zcp (zup μ 4 0 (μ 42 0)) 5 43) 6 44) 7 45) 8 46) 9 47) 10 0 (μ 48 0)) 10 1 (μ 48 1)) 11 49) 12 50) 13 51) 14 52) 15 53) 16 54) 17 55) 18 56) 19 57) 20 58) 3 4 (μ 41 4)) 3 5 (μ 41 5)) (zcs μ 3 41) := by
  intro k sp hk
  by_cases e : k < 3 ∨ 21 ≤ k
  · have e1 : (zup (zup (zcp (zcp (zcp (zcp (zcp (zcp (zcp (zcp (zcp (zcp (zup (zup (zcp (zcp (zcp (zcp (zcp (zup μ 4 0 (μ 42 0)) 5 43) 6 44) 7 45) 8 46) 9 47) 10 0 (μ 48 0)) 10 1 (μ 48 1)) 11 49) 12 50) 13 51) 14 52) 15 53) 16 54) 17 55) 18 56) 19 57) 20 58) 3 4 (μ 41 4)) 3 5 (μ 41 5)) k = μ k := by
      rw [zup_ne (by omega), zup_ne (by omega), zcp_ne (by omega), zcp_ne (by omega), zcp_ne (by omega), zcp_ne (by omega), zcp_ne (by omega), zcp_ne (by omega), zcp_ne (by omega), zcp_ne (by omega), zcp_ne (by omega), zcp_ne (by omega), zup_ne (by omega), zup_ne (by omega), zcp_ne (by omega), zcp_ne (by omega), zcp_ne (by omega), zcp_ne (by omega), zcp_ne (by omega), zup_ne (by omega)]
    have e2 : zcs μ 3 41 k = μ k := zcs_ne (by omega)
    rcases sp with p | p
    · intro j _; rw [e1, e2]
    · show _ = _; rw [e1, e2]
  · obtain ⟨o, ho, rfl⟩ : ∃ o, o < 18 ∧ k = 3 + o := ⟨k - 3, by omega, by omega⟩
    match o, ho with
    | 0, _ =>
      obtain rfl : (Sum.inl (1, [some (some 4), some (some 10), some (some 19), some (some 20), none, none]) : zS) = sp := Option.some.inj hk
      intro j hj
      match j, hj with
      | 0, h => exact absurd h (by decide)
      | 1, h => exact absurd h (by decide)
      | 2, h => exact absurd h (by decide)
      | 3, h => exact absurd h (by decide)
      | 4, _ => exact (rfl : (zup (zup (zcp (zcp (zcp (zcp (zcp (zcp (zcp (zcp (zcp (zcp (zup (zup (zcp (zcp (zcp (zcp (zcp (zup μ 4 0 (μ 42 0)) 5 43) 6 44) 7 45) 8 46) 9 47) 10 0 (μ 48 0)) 10 1 (μ 48 1)) 11 49) 12 50) 13 51) 14 52) 15 53) 16 54) 17 55) 18 56) 19 57) 20 58) 3 4 (μ 41 4)) 3 5 (μ 41 5)) 3 4 = zcs μ 3 41 3 4)
      | 5, _ => exact (rfl : (zup (zup (zcp (zcp (zcp (zcp (zcp (zcp (zcp (zcp (zcp (zcp (zup (zup (zcp (zcp (zcp (zcp (zcp (zup μ 4 0 (μ 42 0)) 5 43) 6 44) 7 45) 8 46) 9 47) 10 0 (μ 48 0)) 10 1 (μ 48 1)) 11 49) 12 50) 13 51) 14 52) 15 53) 16 54) 17 55) 18 56) 19 57) 20 58) 3 4 (μ 41 4)) 3 5 (μ 41 5)) 3 5 = zcs μ 3 41 3 5)
      | j + 6, h => simp at h
    | 1, _ =>
      obtain rfl : (Sum.inl (4, [none, some (some 5), some (some 6), some (some 7), some (some 8), some (some 9)]) : zS) = sp := Option.some.inj hk
      intro j hj
      match j, hj with
      | 0, _ => exact (rfl : (zup (zup (zcp (zcp (zcp (zcp (zcp (zcp (zcp (zcp (zcp (zcp (zup (zup (zcp (zcp (zcp (zcp (zcp (zup μ 4 0 (μ 42 0)) 5 43) 6 44) 7 45) 8 46) 9 47) 10 0 (μ 48 0)) 10 1 (μ 48 1)) 11 49) 12 50) 13 51) 14 52) 15 53) 16 54) 17 55) 18 56) 19 57) 20 58) 3 4 (μ 41 4)) 3 5 (μ 41 5)) 4 0 = zcs μ 3 41 4 0)
      | 1, h => exact absurd h (by decide)
      | 2, h => exact absurd h (by decide)
      | 3, h => exact absurd h (by decide)
      | 4, h => exact absurd h (by decide)
      | 5, h => exact absurd h (by decide)
      | j + 6, h => simp at h
    | 2, _ =>
      obtain rfl : (Sum.inr (0, 24) : zS) = sp := Option.some.inj hk
      exact (rfl : (zup (zup (zcp (zcp (zcp (zcp (zcp (zcp (zcp (zcp (zcp (zcp (zup (zup (zcp (zcp (zcp (zcp (zcp (zup μ 4 0 (μ 42 0)) 5 43) 6 44) 7 45) 8 46) 9 47) 10 0 (μ 48 0)) 10 1 (μ 48 1)) 11 49) 12 50) 13 51) 14 52) 15 53) 16 54) 17 55) 18 56) 19 57) 20 58) 3 4 (μ 41 4)) 3 5 (μ 41 5)) 5 = zcs μ 3 41 5)
    | 3, _ =>
      obtain rfl : (Sum.inr (0, 24) : zS) = sp := Option.some.inj hk
      exact (rfl : (zup (zup (zcp (zcp (zcp (zcp (zcp (zcp (zcp (zcp (zcp (zcp (zup (zup (zcp (zcp (zcp (zcp (zcp (zup μ 4 0 (μ 42 0)) 5 43) 6 44) 7 45) 8 46) 9 47) 10 0 (μ 48 0)) 10 1 (μ 48 1)) 11 49) 12 50) 13 51) 14 52) 15 53) 16 54) 17 55) 18 56) 19 57) 20 58) 3 4 (μ 41 4)) 3 5 (μ 41 5)) 6 = zcs μ 3 41 6)
    | 4, _ =>
      obtain rfl : (Sum.inr (0, 24) : zS) = sp := Option.some.inj hk
      exact (rfl : (zup (zup (zcp (zcp (zcp (zcp (zcp (zcp (zcp (zcp (zcp (zcp (zup (zup (zcp (zcp (zcp (zcp (zcp (zup μ 4 0 (μ 42 0)) 5 43) 6 44) 7 45) 8 46) 9 47) 10 0 (μ 48 0)) 10 1 (μ 48 1)) 11 49) 12 50) 13 51) 14 52) 15 53) 16 54) 17 55) 18 56) 19 57) 20 58) 3 4 (μ 41 4)) 3 5 (μ 41 5)) 7 = zcs μ 3 41 7)
    | 5, _ =>
      obtain rfl : (Sum.inr (0, 192) : zS) = sp := Option.some.inj hk
      exact (rfl : (zup (zup (zcp (zcp (zcp (zcp (zcp (zcp (zcp (zcp (zcp (zcp (zup (zup (zcp (zcp (zcp (zcp (zcp (zup μ 4 0 (μ 42 0)) 5 43) 6 44) 7 45) 8 46) 9 47) 10 0 (μ 48 0)) 10 1 (μ 48 1)) 11 49) 12 50) 13 51) 14 52) 15 53) 16 54) 17 55) 18 56) 19 57) 20 58) 3 4 (μ 41 4)) 3 5 (μ 41 5)) 8 = zcs μ 3 41 8)
    | 6, _ =>
      obtain rfl : (Sum.inr (0, 18) : zS) = sp := Option.some.inj hk
      exact (rfl : (zup (zup (zcp (zcp (zcp (zcp (zcp (zcp (zcp (zcp (zcp (zcp (zup (zup (zcp (zcp (zcp (zcp (zcp (zup μ 4 0 (μ 42 0)) 5 43) 6 44) 7 45) 8 46) 9 47) 10 0 (μ 48 0)) 10 1 (μ 48 1)) 11 49) 12 50) 13 51) 14 52) 15 53) 16 54) 17 55) 18 56) 19 57) 20 58) 3 4 (μ 41 4)) 3 5 (μ 41 5)) 9 = zcs μ 3 41 9)
    | 7, _ =>
      obtain rfl : (Sum.inl (2, [none, none, some (some 11), some (some 12), some (some 13), some (some 14), some (some 15), some (some 16), some (some 17), some (some 18)]) : zS) = sp := Option.some.inj hk
      intro j hj
      match j, hj with
      | 0, _ => exact (rfl : (zup (zup (zcp (zcp (zcp (zcp (zcp (zcp (zcp (zcp (zcp (zcp (zup (zup (zcp (zcp (zcp (zcp (zcp (zup μ 4 0 (μ 42 0)) 5 43) 6 44) 7 45) 8 46) 9 47) 10 0 (μ 48 0)) 10 1 (μ 48 1)) 11 49) 12 50) 13 51) 14 52) 15 53) 16 54) 17 55) 18 56) 19 57) 20 58) 3 4 (μ 41 4)) 3 5 (μ 41 5)) 10 0 = zcs μ 3 41 10 0)
      | 1, _ => exact (rfl : (zup (zup (zcp (zcp (zcp (zcp (zcp (zcp (zcp (zcp (zcp (zcp (zup (zup (zcp (zcp (zcp (zcp (zcp (zup μ 4 0 (μ 42 0)) 5 43) 6 44) 7 45) 8 46) 9 47) 10 0 (μ 48 0)) 10 1 (μ 48 1)) 11 49) 12 50) 13 51) 14 52) 15 53) 16 54) 17 55) 18 56) 19 57) 20 58) 3 4 (μ 41 4)) 3 5 (μ 41 5)) 10 1 = zcs μ 3 41 10 1)
      | 2, h => exact absurd h (by decide)
      | 3, h => exact absurd h (by decide)
      | 4, h => exact absurd h (by decide)
      | 5, h => exact absurd h (by decide)
      | 6, h => exact absurd h (by decide)
      | 7, h => exact absurd h (by decide)
      | 8, h => exact absurd h (by decide)
      | 9, h => exact absurd h (by decide)
      | j + 10, h => simp at h
    | 8, _ =>
      obtain rfl : (Sum.inr (0, 20) : zS) = sp := Option.some.inj hk
      exact (rfl : (zup (zup (zcp (zcp (zcp (zcp (zcp (zcp (zcp (zcp (zcp (zcp (zup (zup (zcp (zcp (zcp (zcp (zcp (zup μ 4 0 (μ 42 0)) 5 43) 6 44) 7 45) 8 46) 9 47) 10 0 (μ 48 0)) 10 1 (μ 48 1)) 11 49) 12 50) 13 51) 14 52) 15 53) 16 54) 17 55) 18 56) 19 57) 20 58) 3 4 (μ 41 4)) 3 5 (μ 41 5)) 11 = zcs μ 3 41 11)
    | 9, _ =>
      obtain rfl : (Sum.inr (0, 20) : zS) = sp := Option.some.inj hk
      exact (rfl : (zup (zup (zcp (zcp (zcp (zcp (zcp (zcp (zcp (zcp (zcp (zcp (zup (zup (zcp (zcp (zcp (zcp (zcp (zup μ 4 0 (μ 42 0)) 5 43) 6 44) 7 45) 8 46) 9 47) 10 0 (μ 48 0)) 10 1 (μ 48 1)) 11 49) 12 50) 13 51) 14 52) 15 53) 16 54) 17 55) 18 56) 19 57) 20 58) 3 4 (μ 41 4)) 3 5 (μ 41 5)) 12 = zcs μ 3 41 12)
    | 10, _ =>
      obtain rfl : (Sum.inr (0, 20) : zS) = sp := Option.some.inj hk
      exact (rfl : (zup (zup (zcp (zcp (zcp (zcp (zcp (zcp (zcp (zcp (zcp (zcp (zup (zup (zcp (zcp (zcp (zcp (zcp (zup μ 4 0 (μ 42 0)) 5 43) 6 44) 7 45) 8 46) 9 47) 10 0 (μ 48 0)) 10 1 (μ 48 1)) 11 49) 12 50) 13 51) 14 52) 15 53) 16 54) 17 55) 18 56) 19 57) 20 58) 3 4 (μ 41 4)) 3 5 (μ 41 5)) 13 = zcs μ 3 41 13)
    | 11, _ =>
      obtain rfl : (Sum.inr (0, 60) : zS) = sp := Option.some.inj hk
      exact (rfl : (zup (zup (zcp (zcp (zcp (zcp (zcp (zcp (zcp (zcp (zcp (zcp (zup (zup (zcp (zcp (zcp (zcp (zcp (zup μ 4 0 (μ 42 0)) 5 43) 6 44) 7 45) 8 46) 9 47) 10 0 (μ 48 0)) 10 1 (μ 48 1)) 11 49) 12 50) 13 51) 14 52) 15 53) 16 54) 17 55) 18 56) 19 57) 20 58) 3 4 (μ 41 4)) 3 5 (μ 41 5)) 14 = zcs μ 3 41 14)
    | 12, _ =>
      obtain rfl : (Sum.inr (0, 20) : zS) = sp := Option.some.inj hk
      exact (rfl : (zup (zup (zcp (zcp (zcp (zcp (zcp (zcp (zcp (zcp (zcp (zcp (zup (zup (zcp (zcp (zcp (zcp (zcp (zup μ 4 0 (μ 42 0)) 5 43) 6 44) 7 45) 8 46) 9 47) 10 0 (μ 48 0)) 10 1 (μ 48 1)) 11 49) 12 50) 13 51) 14 52) 15 53) 16 54) 17 55) 18 56) 19 57) 20 58) 3 4 (μ 41 4)) 3 5 (μ 41 5)) 15 = zcs μ 3 41 15)
    | 13, _ =>
      obtain rfl : (Sum.inr (0, 20) : zS) = sp := Option.some.inj hk
      exact (rfl : (zup (zup (zcp (zcp (zcp (zcp (zcp (zcp (zcp (zcp (zcp (zcp (zup (zup (zcp (zcp (zcp (zcp (zcp (zup μ 4 0 (μ 42 0)) 5 43) 6 44) 7 45) 8 46) 9 47) 10 0 (μ 48 0)) 10 1 (μ 48 1)) 11 49) 12 50) 13 51) 14 52) 15 53) 16 54) 17 55) 18 56) 19 57) 20 58) 3 4 (μ 41 4)) 3 5 (μ 41 5)) 16 = zcs μ 3 41 16)
    | 14, _ =>
      obtain rfl : (Sum.inr (0, 20) : zS) = sp := Option.some.inj hk
      exact (rfl : (zup (zup (zcp (zcp (zcp (zcp (zcp (zcp (zcp (zcp (zcp (zcp (zup (zup (zcp (zcp (zcp (zcp (zcp (zup μ 4 0 (μ 42 0)) 5 43) 6 44) 7 45) 8 46) 9 47) 10 0 (μ 48 0)) 10 1 (μ 48 1)) 11 49) 12 50) 13 51) 14 52) 15 53) 16 54) 17 55) 18 56) 19 57) 20 58) 3 4 (μ 41 4)) 3 5 (μ 41 5)) 17 = zcs μ 3 41 17)
    | 15, _ =>
      obtain rfl : (Sum.inr (0, 20) : zS) = sp := Option.some.inj hk
      exact (rfl : (zup (zup (zcp (zcp (zcp (zcp (zcp (zcp (zcp (zcp (zcp (zcp (zup (zup (zcp (zcp (zcp (zcp (zcp (zup μ 4 0 (μ 42 0)) 5 43) 6 44) 7 45) 8 46) 9 47) 10 0 (μ 48 0)) 10 1 (μ 48 1)) 11 49) 12 50) 13 51) 14 52) 15 53) 16 54) 17 55) 18 56) 19 57) 20 58) 3 4 (μ 41 4)) 3 5 (μ 41 5)) 18 = zcs μ 3 41 18)
    | 16, _ =>
      obtain rfl : (Sum.inr (0, 10) : zS) = sp := Option.some.inj hk
      exact (rfl : (zup (zup (zcp (zcp (zcp (zcp (zcp (zcp (zcp (zcp (zcp (zcp (zup (zup (zcp (zcp (zcp (zcp (zcp (zup μ 4 0 (μ 42 0)) 5 43) 6 44) 7 45) 8 46) 9 47) 10 0 (μ 48 0)) 10 1 (μ 48 1)) 11 49) 12 50) 13 51) 14 52) 15 53) 16 54) 17 55) 18 56) 19 57) 20 58) 3 4 (μ 41 4)) 3 5 (μ 41 5)) 19 = zcs μ 3 41 19)
    | 17, _ =>
      obtain rfl : (Sum.inr (0, 10) : zS) = sp := Option.some.inj hk
      exact (rfl : (zup (zup (zcp (zcp (zcp (zcp (zcp (zcp (zcp (zcp (zcp (zcp (zup (zup (zcp (zcp (zcp (zcp (zcp (zup μ 4 0 (μ 42 0)) 5 43) 6 44) 7 45) 8 46) 9 47) 10 0 (μ 48 0)) 10 1 (μ 48 1)) 11 49) 12 50) 13 51) 14 52) 15 53) 16 54) 17 55) 18 56) 19 57) 20 58) 3 4 (μ 41 4)) 3 5 (μ 41 5)) 20 = zcs μ 3 41 20)
    | o + 18, h => omega
set_option maxHeartbeats 4000000 in
set_option maxRecDepth 100000 in
theorem xz_copyFrom_3_41 {μ : zM} : Dz md_1_copyFrom [zr 3, zr 41] zSh μ none zSh (zcs μ 3 41) := by
  refine Dz.of (by decide) rfl rfl (show Ez md_1_copyFrom 0 0 0 [(0, zr 3), (1, zr 41)] [] zSh μ none zSh (zcs μ 3 41) from ?_)
  refine Az.blk kd_1_copyFrom_0 (show Ez md_1_copyFrom 0 0 8 [(0, zr 3), (1, zr 41)] [zr 42, zr 4] zSh μ _ _ _ from ?_)
  refine Az.cVN (mc := md_4_copyWordsFrom) (k := 4) (n := 1) (As := [zr 42]) (rest := []) kr_1_copyFrom_8 zw_263 ok_4_copyWordsFrom rfl rfl rfl trivial (xz_copyWordsFrom_4_42) rfl rfl (show Ez md_1_copyFrom 0 0 11 [(0, zr 3), (1, zr 41)] [] zSh (zcp (zcp (zcp (zcp (zcp (zup μ 4 0 (μ 42 0)) 5 43) 6 44) 7 45) 8 46) 9 47) _ _ _ from ?_)
  refine Az.blk kd_1_copyFrom_11 (show Ez md_1_copyFrom 0 0 19 [(0, zr 3), (1, zr 41)] [zr 48, zr 10] zSh (zcp (zcp (zcp (zcp (zcp (zup μ 4 0 (μ 42 0)) 5 43) 6 44) 7 45) 8 46) 9 47) _ _ _ from ?_)
  refine Az.cVN (mc := md_2_copyTaleFrom) (k := 10) (n := 1) (As := [zr 48]) (rest := []) kr_1_copyFrom_19 zw_276 ok_2_copyTaleFrom rfl rfl rfl trivial (xz_copyTaleFrom_10_48) rfl rfl (show Ez md_1_copyFrom 0 0 22 [(0, zr 3), (1, zr 41)] [] zSh (zcp (zcp (zcp (zcp (zcp (zcp (zcp (zcp (zup (zup (zcp (zcp (zcp (zcp (zcp (zup μ 4 0 (μ 42 0)) 5 43) 6 44) 7 45) 8 46) 9 47) 10 0 (μ 48 0)) 10 1 (μ 48 1)) 11 49) 12 50) 13 51) 14 52) 15 53) 16 54) 17 55) 18 56) _ _ _ from ?_)
  refine Az.blk kd_1_copyFrom_22 (show Ez md_1_copyFrom 0 0 30 [(0, zr 3), (1, zr 41)] [zr 19, zr 57] zSh (zcp (zcp (zcp (zcp (zcp (zcp (zcp (zcp (zup (zup (zcp (zcp (zcp (zcp (zcp (zup μ 4 0 (μ 42 0)) 5 43) 6 44) 7 45) 8 46) 9 47) 10 0 (μ 48 0)) 10 1 (μ 48 1)) 11 49) 12 50) 13 51) 14 52) 15 53) 16 54) 17 55) 18 56) _ _ _ from ?_)
  refine Az.cSN (mc := md_5_copyRow) (n := 2) (As := [zr 57, zr 19]) (rest := []) kr_1_copyFrom_30 zw_281 ok_5_copyRow rfl rfl (xz_copyRow 57 19 10 rfl rfl (by decide)) rfl rfl (show Ez md_1_copyFrom 0 0 33 [(0, zr 3), (1, zr 41)] [] zSh (zcp (zcp (zcp (zcp (zcp (zcp (zcp (zcp (zcp (zup (zup (zcp (zcp (zcp (zcp (zcp (zup μ 4 0 (μ 42 0)) 5 43) 6 44) 7 45) 8 46) 9 47) 10 0 (μ 48 0)) 10 1 (μ 48 1)) 11 49) 12 50) 13 51) 14 52) 15 53) 16 54) 17 55) 18 56) 19 57) _ _ _ from ?_)
  refine Az.blk kd_1_copyFrom_33 (show Ez md_1_copyFrom 0 0 41 [(0, zr 3), (1, zr 41)] [zr 20, zr 58] zSh (zcp (zcp (zcp (zcp (zcp (zcp (zcp (zcp (zcp (zup (zup (zcp (zcp (zcp (zcp (zcp (zup μ 4 0 (μ 42 0)) 5 43) 6 44) 7 45) 8 46) 9 47) 10 0 (μ 48 0)) 10 1 (μ 48 1)) 11 49) 12 50) 13 51) 14 52) 15 53) 16 54) 17 55) 18 56) 19 57) _ _ _ from ?_)
  refine Az.cSN (mc := md_5_copyRow) (n := 2) (As := [zr 58, zr 20]) (rest := []) kr_1_copyFrom_41 zw_281 ok_5_copyRow rfl rfl (xz_copyRow 58 20 10 rfl rfl (by decide)) rfl rfl (show Ez md_1_copyFrom 0 0 44 [(0, zr 3), (1, zr 41)] [] zSh (zcp (zcp (zcp (zcp (zcp (zcp (zcp (zcp (zcp (zcp (zup (zup (zcp (zcp (zcp (zcp (zcp (zup μ 4 0 (μ 42 0)) 5 43) 6 44) 7 45) 8 46) 9 47) 10 0 (μ 48 0)) 10 1 (μ 48 1)) 11 49) 12 50) 13 51) 14 52) 15 53) 16 54) 17 55) 18 56) 19 57) 20 58) _ _ _ from ?_)
  refine Az.blk kd_1_copyFrom_44 (show Ez md_1_copyFrom 0 0 60 [(0, zr 3), (1, zr 41)] [] zSh (zup (zup (zcp (zcp (zcp (zcp (zcp (zcp (zcp (zcp (zcp (zcp (zup (zup (zcp (zcp (zcp (zcp (zcp (zup μ 4 0 (μ 42 0)) 5 43) 6 44) 7 45) 8 46) 9 47) 10 0 (μ 48 0)) 10 1 (μ 48 1)) 11 49) 12 50) 13 51) 14 52) 15 53) 16 54) 17 55) 18 56) 19 57) 20 58) 3 4 (μ 41 4)) 3 5 (μ 41 5)) _ _ _ from ?_)
  refine Az.mem (μ' := zcs μ 3 41) (fun G k sp H hk h => by rw [← zsm_cell (zsm_3_41 μ) hk]; exact h) ?_
  exact Ez.vret kr_1_copyFrom_60 rfl (Nat.zero_le _) (Nat.zero_le _) rfl rfl
set_option maxHeartbeats 4000000 in
set_option maxRecDepth 100000 in
theorem xz_copyWordsFrom_4_60 {μ : zM} : Dz md_4_copyWordsFrom [zr 4, zr 60] zSh μ none zSh (zcp (zcp (zcp (zcp (zcp (zup μ 4 0 (μ 60 0)) 5 61) 6 62) 7 63) 8 64) 9 65) := by
  refine Dz.of (by decide) rfl rfl (show Ez md_4_copyWordsFrom 0 0 0 [(0, zr 4), (1, zr 60)] [] zSh μ none zSh (zcp (zcp (zcp (zcp (zcp (zup μ 4 0 (μ 60 0)) 5 61) 6 62) 7 63) 8 64) 9 65) from ?_)
  refine Az.blk kd_4_copyWordsFrom_0 (show Ez md_4_copyWordsFrom 0 0 16 [(0, zr 4), (1, zr 60)] [zr 5, zr 61] zSh (zup μ 4 0 (μ 60 0)) _ _ _ from ?_)
  refine Az.cSN (mc := md_5_copyRow) (n := 2) (As := [zr 61, zr 5]) (rest := []) kr_4_copyWordsFrom_16 zw_267 ok_5_copyRow rfl rfl (xz_copyRow 61 5 24 rfl rfl (by decide)) rfl rfl (show Ez md_4_copyWordsFrom 0 0 19 [(0, zr 4), (1, zr 60)] [] zSh (zcp (zup μ 4 0 (μ 60 0)) 5 61) _ _ _ from ?_)
  refine Az.blk kd_4_copyWordsFrom_19 (show Ez md_4_copyWordsFrom 0 0 27 [(0, zr 4), (1, zr 60)] [zr 6, zr 62] zSh (zcp (zup μ 4 0 (μ 60 0)) 5 61) _ _ _ from ?_)
  refine Az.cSN (mc := md_5_copyRow) (n := 2) (As := [zr 62, zr 6]) (rest := []) kr_4_copyWordsFrom_27 zw_267 ok_5_copyRow rfl rfl (xz_copyRow 62 6 24 rfl rfl (by decide)) rfl rfl (show Ez md_4_copyWordsFrom 0 0 30 [(0, zr 4), (1, zr 60)] [] zSh (zcp (zcp (zup μ 4 0 (μ 60 0)) 5 61) 6 62) _ _ _ from ?_)
  refine Az.blk kd_4_copyWordsFrom_30 (show Ez md_4_copyWordsFrom 0 0 38 [(0, zr 4), (1, zr 60)] [zr 7, zr 63] zSh (zcp (zcp (zup μ 4 0 (μ 60 0)) 5 61) 6 62) _ _ _ from ?_)
  refine Az.cSN (mc := md_5_copyRow) (n := 2) (As := [zr 63, zr 7]) (rest := []) kr_4_copyWordsFrom_38 zw_267 ok_5_copyRow rfl rfl (xz_copyRow 63 7 24 rfl rfl (by decide)) rfl rfl (show Ez md_4_copyWordsFrom 0 0 41 [(0, zr 4), (1, zr 60)] [] zSh (zcp (zcp (zcp (zup μ 4 0 (μ 60 0)) 5 61) 6 62) 7 63) _ _ _ from ?_)
  refine Az.blk kd_4_copyWordsFrom_41 (show Ez md_4_copyWordsFrom 0 0 49 [(0, zr 4), (1, zr 60)] [zr 8, zr 64] zSh (zcp (zcp (zcp (zup μ 4 0 (μ 60 0)) 5 61) 6 62) 7 63) _ _ _ from ?_)
  refine Az.cSN (mc := md_5_copyRow) (n := 2) (As := [zr 64, zr 8]) (rest := []) kr_4_copyWordsFrom_49 zw_267 ok_5_copyRow rfl rfl (xz_copyRow 64 8 192 rfl rfl (by decide)) rfl rfl (show Ez md_4_copyWordsFrom 0 0 52 [(0, zr 4), (1, zr 60)] [] zSh (zcp (zcp (zcp (zcp (zup μ 4 0 (μ 60 0)) 5 61) 6 62) 7 63) 8 64) _ _ _ from ?_)
  refine Az.blk kd_4_copyWordsFrom_52 (show Ez md_4_copyWordsFrom 0 0 60 [(0, zr 4), (1, zr 60)] [zr 9, zr 65] zSh (zcp (zcp (zcp (zcp (zup μ 4 0 (μ 60 0)) 5 61) 6 62) 7 63) 8 64) _ _ _ from ?_)
  refine Az.cSN (mc := md_5_copyRow) (n := 2) (As := [zr 65, zr 9]) (rest := []) kr_4_copyWordsFrom_60 zw_267 ok_5_copyRow rfl rfl (xz_copyRow 65 9 18 rfl rfl (by decide)) rfl rfl (show Ez md_4_copyWordsFrom 0 0 63 [(0, zr 4), (1, zr 60)] [] zSh (zcp (zcp (zcp (zcp (zcp (zup μ 4 0 (μ 60 0)) 5 61) 6 62) 7 63) 8 64) 9 65) _ _ _ from ?_)
  exact Ez.vret kr_4_copyWordsFrom_63 rfl (Nat.zero_le _) (Nat.zero_le _) rfl rfl
set_option maxHeartbeats 4000000 in
set_option maxRecDepth 100000 in
theorem xz_copyTaleFrom_10_66 {μ : zM} : Dz md_2_copyTaleFrom [zr 10, zr 66] zSh μ none zSh (zcp (zcp (zcp (zcp (zcp (zcp (zcp (zcp (zup (zup μ 10 0 (μ 66 0)) 10 1 (μ 66 1)) 11 67) 12 68) 13 69) 14 70) 15 71) 16 72) 17 73) 18 74) := by
  refine Dz.of (by decide) rfl rfl (show Ez md_2_copyTaleFrom 0 0 0 [(0, zr 10), (1, zr 66)] [] zSh μ none zSh (zcp (zcp (zcp (zcp (zcp (zcp (zcp (zcp (zup (zup μ 10 0 (μ 66 0)) 10 1 (μ 66 1)) 11 67) 12 68) 13 69) 14 70) 15 71) 16 72) 17 73) 18 74) from ?_)
  refine Az.blk kd_2_copyTaleFrom_0 (show Ez md_2_copyTaleFrom 0 0 24 [(0, zr 10), (1, zr 66)] [zr 11, zr 67] zSh (zup (zup μ 10 0 (μ 66 0)) 10 1 (μ 66 1)) _ _ _ from ?_)
  refine Az.cSN (mc := md_5_copyRow) (n := 2) (As := [zr 67, zr 11]) (rest := []) kr_2_copyTaleFrom_24 zw_280 ok_5_copyRow rfl rfl (xz_copyRow 67 11 20 rfl rfl (by decide)) rfl rfl (show Ez md_2_copyTaleFrom 0 0 27 [(0, zr 10), (1, zr 66)] [] zSh (zcp (zup (zup μ 10 0 (μ 66 0)) 10 1 (μ 66 1)) 11 67) _ _ _ from ?_)
  refine Az.blk kd_2_copyTaleFrom_27 (show Ez md_2_copyTaleFrom 0 0 35 [(0, zr 10), (1, zr 66)] [zr 12, zr 68] zSh (zcp (zup (zup μ 10 0 (μ 66 0)) 10 1 (μ 66 1)) 11 67) _ _ _ from ?_)
  refine Az.cSN (mc := md_5_copyRow) (n := 2) (As := [zr 68, zr 12]) (rest := []) kr_2_copyTaleFrom_35 zw_280 ok_5_copyRow rfl rfl (xz_copyRow 68 12 20 rfl rfl (by decide)) rfl rfl (show Ez md_2_copyTaleFrom 0 0 38 [(0, zr 10), (1, zr 66)] [] zSh (zcp (zcp (zup (zup μ 10 0 (μ 66 0)) 10 1 (μ 66 1)) 11 67) 12 68) _ _ _ from ?_)
  refine Az.blk kd_2_copyTaleFrom_38 (show Ez md_2_copyTaleFrom 0 0 46 [(0, zr 10), (1, zr 66)] [zr 13, zr 69] zSh (zcp (zcp (zup (zup μ 10 0 (μ 66 0)) 10 1 (μ 66 1)) 11 67) 12 68) _ _ _ from ?_)
  refine Az.cSN (mc := md_5_copyRow) (n := 2) (As := [zr 69, zr 13]) (rest := []) kr_2_copyTaleFrom_46 zw_280 ok_5_copyRow rfl rfl (xz_copyRow 69 13 20 rfl rfl (by decide)) rfl rfl (show Ez md_2_copyTaleFrom 0 0 49 [(0, zr 10), (1, zr 66)] [] zSh (zcp (zcp (zcp (zup (zup μ 10 0 (μ 66 0)) 10 1 (μ 66 1)) 11 67) 12 68) 13 69) _ _ _ from ?_)
  refine Az.blk kd_2_copyTaleFrom_49 (show Ez md_2_copyTaleFrom 0 0 57 [(0, zr 10), (1, zr 66)] [zr 14, zr 70] zSh (zcp (zcp (zcp (zup (zup μ 10 0 (μ 66 0)) 10 1 (μ 66 1)) 11 67) 12 68) 13 69) _ _ _ from ?_)
  refine Az.cSN (mc := md_5_copyRow) (n := 2) (As := [zr 70, zr 14]) (rest := []) kr_2_copyTaleFrom_57 zw_280 ok_5_copyRow rfl rfl (xz_copyRow 70 14 60 rfl rfl (by decide)) rfl rfl (show Ez md_2_copyTaleFrom 0 0 60 [(0, zr 10), (1, zr 66)] [] zSh (zcp (zcp (zcp (zcp (zup (zup μ 10 0 (μ 66 0)) 10 1 (μ 66 1)) 11 67) 12 68) 13 69) 14 70) _ _ _ from ?_)
  refine Az.blk kd_2_copyTaleFrom_60 (show Ez md_2_copyTaleFrom 0 0 68 [(0, zr 10), (1, zr 66)] [zr 15, zr 71] zSh (zcp (zcp (zcp (zcp (zup (zup μ 10 0 (μ 66 0)) 10 1 (μ 66 1)) 11 67) 12 68) 13 69) 14 70) _ _ _ from ?_)
  refine Az.cSN (mc := md_5_copyRow) (n := 2) (As := [zr 71, zr 15]) (rest := []) kr_2_copyTaleFrom_68 zw_280 ok_5_copyRow rfl rfl (xz_copyRow 71 15 20 rfl rfl (by decide)) rfl rfl (show Ez md_2_copyTaleFrom 0 0 71 [(0, zr 10), (1, zr 66)] [] zSh (zcp (zcp (zcp (zcp (zcp (zup (zup μ 10 0 (μ 66 0)) 10 1 (μ 66 1)) 11 67) 12 68) 13 69) 14 70) 15 71) _ _ _ from ?_)
  refine Az.blk kd_2_copyTaleFrom_71 (show Ez md_2_copyTaleFrom 0 0 79 [(0, zr 10), (1, zr 66)] [zr 16, zr 72] zSh (zcp (zcp (zcp (zcp (zcp (zup (zup μ 10 0 (μ 66 0)) 10 1 (μ 66 1)) 11 67) 12 68) 13 69) 14 70) 15 71) _ _ _ from ?_)
  refine Az.cSN (mc := md_5_copyRow) (n := 2) (As := [zr 72, zr 16]) (rest := []) kr_2_copyTaleFrom_79 zw_280 ok_5_copyRow rfl rfl (xz_copyRow 72 16 20 rfl rfl (by decide)) rfl rfl (show Ez md_2_copyTaleFrom 0 0 82 [(0, zr 10), (1, zr 66)] [] zSh (zcp (zcp (zcp (zcp (zcp (zcp (zup (zup μ 10 0 (μ 66 0)) 10 1 (μ 66 1)) 11 67) 12 68) 13 69) 14 70) 15 71) 16 72) _ _ _ from ?_)
  refine Az.blk kd_2_copyTaleFrom_82 (show Ez md_2_copyTaleFrom 0 0 90 [(0, zr 10), (1, zr 66)] [zr 17, zr 73] zSh (zcp (zcp (zcp (zcp (zcp (zcp (zup (zup μ 10 0 (μ 66 0)) 10 1 (μ 66 1)) 11 67) 12 68) 13 69) 14 70) 15 71) 16 72) _ _ _ from ?_)
  refine Az.cSN (mc := md_5_copyRow) (n := 2) (As := [zr 73, zr 17]) (rest := []) kr_2_copyTaleFrom_90 zw_280 ok_5_copyRow rfl rfl (xz_copyRow 73 17 20 rfl rfl (by decide)) rfl rfl (show Ez md_2_copyTaleFrom 0 0 93 [(0, zr 10), (1, zr 66)] [] zSh (zcp (zcp (zcp (zcp (zcp (zcp (zcp (zup (zup μ 10 0 (μ 66 0)) 10 1 (μ 66 1)) 11 67) 12 68) 13 69) 14 70) 15 71) 16 72) 17 73) _ _ _ from ?_)
  refine Az.blk kd_2_copyTaleFrom_93 (show Ez md_2_copyTaleFrom 0 0 101 [(0, zr 10), (1, zr 66)] [zr 18, zr 74] zSh (zcp (zcp (zcp (zcp (zcp (zcp (zcp (zup (zup μ 10 0 (μ 66 0)) 10 1 (μ 66 1)) 11 67) 12 68) 13 69) 14 70) 15 71) 16 72) 17 73) _ _ _ from ?_)
  refine Az.cSN (mc := md_5_copyRow) (n := 2) (As := [zr 74, zr 18]) (rest := []) kr_2_copyTaleFrom_101 zw_280 ok_5_copyRow rfl rfl (xz_copyRow 74 18 20 rfl rfl (by decide)) rfl rfl (show Ez md_2_copyTaleFrom 0 0 104 [(0, zr 10), (1, zr 66)] [] zSh (zcp (zcp (zcp (zcp (zcp (zcp (zcp (zcp (zup (zup μ 10 0 (μ 66 0)) 10 1 (μ 66 1)) 11 67) 12 68) 13 69) 14 70) 15 71) 16 72) 17 73) 18 74) _ _ _ from ?_)
  exact Ez.vret kr_2_copyTaleFrom_104 rfl (Nat.zero_le _) (Nat.zero_le _) rfl rfl
set_option maxRecDepth 100000 in
theorem zsm_3_59 (μ : zM) : zsm zSh (zup (zup (zcp (zcp (zcp (zcp (zcp (zcp (zcp (zcp (zcp (zcp (zup (zup (zcp (zcp (zcp (zcp (zcp (zup μ 4 0 (μ 60 0)) 5 61) 6 62) 7 63) 8 64) 9 65) 10 0 (μ 66 0)) 10 1 (μ 66 1)) 11 67) 12 68) 13 69) 14 70) 15 71) 16 72) 17 73) 18 74) 19 75) 20 76) 3 4 (μ 59 4)) 3 5 (μ 59 5)) (zcs μ 3 59) := by
  intro k sp hk
  by_cases e : k < 3 ∨ 21 ≤ k
  · have e1 : (zup (zup (zcp (zcp (zcp (zcp (zcp (zcp (zcp (zcp (zcp (zcp (zup (zup (zcp (zcp (zcp (zcp (zcp (zup μ 4 0 (μ 60 0)) 5 61) 6 62) 7 63) 8 64) 9 65) 10 0 (μ 66 0)) 10 1 (μ 66 1)) 11 67) 12 68) 13 69) 14 70) 15 71) 16 72) 17 73) 18 74) 19 75) 20 76) 3 4 (μ 59 4)) 3 5 (μ 59 5)) k = μ k := by
      rw [zup_ne (by omega), zup_ne (by omega), zcp_ne (by omega), zcp_ne (by omega), zcp_ne (by omega), zcp_ne (by omega), zcp_ne (by omega), zcp_ne (by omega), zcp_ne (by omega), zcp_ne (by omega), zcp_ne (by omega), zcp_ne (by omega), zup_ne (by omega), zup_ne (by omega), zcp_ne (by omega), zcp_ne (by omega), zcp_ne (by omega), zcp_ne (by omega), zcp_ne (by omega), zup_ne (by omega)]
    have e2 : zcs μ 3 59 k = μ k := zcs_ne (by omega)
    rcases sp with p | p
    · intro j _; rw [e1, e2]
    · show _ = _; rw [e1, e2]
  · obtain ⟨o, ho, rfl⟩ : ∃ o, o < 18 ∧ k = 3 + o := ⟨k - 3, by omega, by omega⟩
    match o, ho with
    | 0, _ =>
      obtain rfl : (Sum.inl (1, [some (some 4), some (some 10), some (some 19), some (some 20), none, none]) : zS) = sp := Option.some.inj hk
      intro j hj
      match j, hj with
      | 0, h => exact absurd h (by decide)
      | 1, h => exact absurd h (by decide)
      | 2, h => exact absurd h (by decide)
      | 3, h => exact absurd h (by decide)
      | 4, _ => exact (rfl : (zup (zup (zcp (zcp (zcp (zcp (zcp (zcp (zcp (zcp (zcp (zcp (zup (zup (zcp (zcp (zcp (zcp (zcp (zup μ 4 0 (μ 60 0)) 5 61) 6 62) 7 63) 8 64) 9 65) 10 0 (μ 66 0)) 10 1 (μ 66 1)) 11 67) 12 68) 13 69) 14 70) 15 71) 16 72) 17 73) 18 74) 19 75) 20 76) 3 4 (μ 59 4)) 3 5 (μ 59 5)) 3 4 = zcs μ 3 59 3 4)
      | 5, _ => exact (rfl : (zup (zup (zcp (zcp (zcp (zcp (zcp (zcp (zcp (zcp (zcp (zcp (zup (zup (zcp (zcp (zcp (zcp (zcp (zup μ 4 0 (μ 60 0)) 5 61) 6 62) 7 63) 8 64) 9 65) 10 0 (μ 66 0)) 10 1 (μ 66 1)) 11 67) 12 68) 13 69) 14 70) 15 71) 16 72) 17 73) 18 74) 19 75) 20 76) 3 4 (μ 59 4)) 3 5 (μ 59 5)) 3 5 = zcs μ 3 59 3 5)
      | j + 6, h => simp at h
    | 1, _ =>
      obtain rfl : (Sum.inl (4, [none, some (some 5), some (some 6), some (some 7), some (some 8), some (some 9)]) : zS) = sp := Option.some.inj hk
      intro j hj
      match j, hj with
      | 0, _ => exact (rfl : (zup (zup (zcp (zcp (zcp (zcp (zcp (zcp (zcp (zcp (zcp (zcp (zup (zup (zcp (zcp (zcp (zcp (zcp (zup μ 4 0 (μ 60 0)) 5 61) 6 62) 7 63) 8 64) 9 65) 10 0 (μ 66 0)) 10 1 (μ 66 1)) 11 67) 12 68) 13 69) 14 70) 15 71) 16 72) 17 73) 18 74) 19 75) 20 76) 3 4 (μ 59 4)) 3 5 (μ 59 5)) 4 0 = zcs μ 3 59 4 0)
      | 1, h => exact absurd h (by decide)
      | 2, h => exact absurd h (by decide)
      | 3, h => exact absurd h (by decide)
      | 4, h => exact absurd h (by decide)
      | 5, h => exact absurd h (by decide)
      | j + 6, h => simp at h
    | 2, _ =>
      obtain rfl : (Sum.inr (0, 24) : zS) = sp := Option.some.inj hk
      exact (rfl : (zup (zup (zcp (zcp (zcp (zcp (zcp (zcp (zcp (zcp (zcp (zcp (zup (zup (zcp (zcp (zcp (zcp (zcp (zup μ 4 0 (μ 60 0)) 5 61) 6 62) 7 63) 8 64) 9 65) 10 0 (μ 66 0)) 10 1 (μ 66 1)) 11 67) 12 68) 13 69) 14 70) 15 71) 16 72) 17 73) 18 74) 19 75) 20 76) 3 4 (μ 59 4)) 3 5 (μ 59 5)) 5 = zcs μ 3 59 5)
    | 3, _ =>
      obtain rfl : (Sum.inr (0, 24) : zS) = sp := Option.some.inj hk
      exact (rfl : (zup (zup (zcp (zcp (zcp (zcp (zcp (zcp (zcp (zcp (zcp (zcp (zup (zup (zcp (zcp (zcp (zcp (zcp (zup μ 4 0 (μ 60 0)) 5 61) 6 62) 7 63) 8 64) 9 65) 10 0 (μ 66 0)) 10 1 (μ 66 1)) 11 67) 12 68) 13 69) 14 70) 15 71) 16 72) 17 73) 18 74) 19 75) 20 76) 3 4 (μ 59 4)) 3 5 (μ 59 5)) 6 = zcs μ 3 59 6)
    | 4, _ =>
      obtain rfl : (Sum.inr (0, 24) : zS) = sp := Option.some.inj hk
      exact (rfl : (zup (zup (zcp (zcp (zcp (zcp (zcp (zcp (zcp (zcp (zcp (zcp (zup (zup (zcp (zcp (zcp (zcp (zcp (zup μ 4 0 (μ 60 0)) 5 61) 6 62) 7 63) 8 64) 9 65) 10 0 (μ 66 0)) 10 1 (μ 66 1)) 11 67) 12 68) 13 69) 14 70) 15 71) 16 72) 17 73) 18 74) 19 75) 20 76) 3 4 (μ 59 4)) 3 5 (μ 59 5)) 7 = zcs μ 3 59 7)
    | 5, _ =>
      obtain rfl : (Sum.inr (0, 192) : zS) = sp := Option.some.inj hk
      exact (rfl : (zup (zup (zcp (zcp (zcp (zcp (zcp (zcp (zcp (zcp (zcp (zcp (zup (zup (zcp (zcp (zcp (zcp (zcp (zup μ 4 0 (μ 60 0)) 5 61) 6 62) 7 63) 8 64) 9 65) 10 0 (μ 66 0)) 10 1 (μ 66 1)) 11 67) 12 68) 13 69) 14 70) 15 71) 16 72) 17 73) 18 74) 19 75) 20 76) 3 4 (μ 59 4)) 3 5 (μ 59 5)) 8 = zcs μ 3 59 8)
    | 6, _ =>
      obtain rfl : (Sum.inr (0, 18) : zS) = sp := Option.some.inj hk
      exact (rfl : (zup (zup (zcp (zcp (zcp (zcp (zcp (zcp (zcp (zcp (zcp (zcp (zup (zup (zcp (zcp (zcp (zcp (zcp (zup μ 4 0 (μ 60 0)) 5 61) 6 62) 7 63) 8 64) 9 65) 10 0 (μ 66 0)) 10 1 (μ 66 1)) 11 67) 12 68) 13 69) 14 70) 15 71) 16 72) 17 73) 18 74) 19 75) 20 76) 3 4 (μ 59 4)) 3 5 (μ 59 5)) 9 = zcs μ 3 59 9)
    | 7, _ =>
      obtain rfl : (Sum.inl (2, [none, none, some (some 11), some (some 12), some (some 13), some (some 14), some (some 15), some (some 16), some (some 17), some (some 18)]) : zS) = sp := Option.some.inj hk
      intro j hj
      match j, hj with
      | 0, _ => exact (rfl : (zup (zup (zcp (zcp (zcp (zcp (zcp (zcp (zcp (zcp (zcp (zcp (zup (zup (zcp (zcp (zcp (zcp (zcp (zup μ 4 0 (μ 60 0)) 5 61) 6 62) 7 63) 8 64) 9 65) 10 0 (μ 66 0)) 10 1 (μ 66 1)) 11 67) 12 68) 13 69) 14 70) 15 71) 16 72) 17 73) 18 74) 19 75) 20 76) 3 4 (μ 59 4)) 3 5 (μ 59 5)) 10 0 = zcs μ 3 59 10 0)
      | 1, _ => exact (rfl : (zup (zup (zcp (zcp (zcp (zcp (zcp (zcp (zcp (zcp (zcp (zcp (zup (zup (zcp (zcp (zcp (zcp (zcp (zup μ 4 0 (μ 60 0)) 5 61) 6 62) 7 63) 8 64) 9 65) 10 0 (μ 66 0)) 10 1 (μ 66 1)) 11 67) 12 68) 13 69) 14 70) 15 71) 16 72) 17 73) 18 74) 19 75) 20 76) 3 4 (μ 59 4)) 3 5 (μ 59 5)) 10 1 = zcs μ 3 59 10 1)
      | 2, h => exact absurd h (by decide)
      | 3, h => exact absurd h (by decide)
      | 4, h => exact absurd h (by decide)
      | 5, h => exact absurd h (by decide)
      | 6, h => exact absurd h (by decide)
      | 7, h => exact absurd h (by decide)
      | 8, h => exact absurd h (by decide)
      | 9, h => exact absurd h (by decide)
      | j + 10, h => simp at h
    | 8, _ =>
      obtain rfl : (Sum.inr (0, 20) : zS) = sp := Option.some.inj hk
      exact (rfl : (zup (zup (zcp (zcp (zcp (zcp (zcp (zcp (zcp (zcp (zcp (zcp (zup (zup (zcp (zcp (zcp (zcp (zcp (zup μ 4 0 (μ 60 0)) 5 61) 6 62) 7 63) 8 64) 9 65) 10 0 (μ 66 0)) 10 1 (μ 66 1)) 11 67) 12 68) 13 69) 14 70) 15 71) 16 72) 17 73) 18 74) 19 75) 20 76) 3 4 (μ 59 4)) 3 5 (μ 59 5)) 11 = zcs μ 3 59 11)
    | 9, _ =>
      obtain rfl : (Sum.inr (0, 20) : zS) = sp := Option.some.inj hk
      exact (rfl : (zup (zup (zcp (zcp (zcp (zcp (zcp (zcp (zcp (zcp (zcp (zcp (zup (zup (zcp (zcp (zcp (zcp (zcp (zup μ 4 0 (μ 60 0)) 5 61) 6 62) 7 63) 8 64) 9 65) 10 0 (μ 66 0)) 10 1 (μ 66 1)) 11 67) 12 68) 13 69) 14 70) 15 71) 16 72) 17 73) 18 74) 19 75) 20 76) 3 4 (μ 59 4)) 3 5 (μ 59 5)) 12 = zcs μ 3 59 12)
    | 10, _ =>
      obtain rfl : (Sum.inr (0, 20) : zS) = sp := Option.some.inj hk
      exact (rfl : (zup (zup (zcp (zcp (zcp (zcp (zcp (zcp (zcp (zcp (zcp (zcp (zup (zup (zcp (zcp (zcp (zcp (zcp (zup μ 4 0 (μ 60 0)) 5 61) 6 62) 7 63) 8 64) 9 65) 10 0 (μ 66 0)) 10 1 (μ 66 1)) 11 67) 12 68) 13 69) 14 70) 15 71) 16 72) 17 73) 18 74) 19 75) 20 76) 3 4 (μ 59 4)) 3 5 (μ 59 5)) 13 = zcs μ 3 59 13)
    | 11, _ =>
      obtain rfl : (Sum.inr (0, 60) : zS) = sp := Option.some.inj hk
      exact (rfl : (zup (zup (zcp (zcp (zcp (zcp (zcp (zcp (zcp (zcp (zcp (zcp (zup (zup (zcp (zcp (zcp (zcp (zcp (zup μ 4 0 (μ 60 0)) 5 61) 6 62) 7 63) 8 64) 9 65) 10 0 (μ 66 0)) 10 1 (μ 66 1)) 11 67) 12 68) 13 69) 14 70) 15 71) 16 72) 17 73) 18 74) 19 75) 20 76) 3 4 (μ 59 4)) 3 5 (μ 59 5)) 14 = zcs μ 3 59 14)
    | 12, _ =>
      obtain rfl : (Sum.inr (0, 20) : zS) = sp := Option.some.inj hk
      exact (rfl : (zup (zup (zcp (zcp (zcp (zcp (zcp (zcp (zcp (zcp (zcp (zcp (zup (zup (zcp (zcp (zcp (zcp (zcp (zup μ 4 0 (μ 60 0)) 5 61) 6 62) 7 63) 8 64) 9 65) 10 0 (μ 66 0)) 10 1 (μ 66 1)) 11 67) 12 68) 13 69) 14 70) 15 71) 16 72) 17 73) 18 74) 19 75) 20 76) 3 4 (μ 59 4)) 3 5 (μ 59 5)) 15 = zcs μ 3 59 15)
    | 13, _ =>
      obtain rfl : (Sum.inr (0, 20) : zS) = sp := Option.some.inj hk
      exact (rfl : (zup (zup (zcp (zcp (zcp (zcp (zcp (zcp (zcp (zcp (zcp (zcp (zup (zup (zcp (zcp (zcp (zcp (zcp (zup μ 4 0 (μ 60 0)) 5 61) 6 62) 7 63) 8 64) 9 65) 10 0 (μ 66 0)) 10 1 (μ 66 1)) 11 67) 12 68) 13 69) 14 70) 15 71) 16 72) 17 73) 18 74) 19 75) 20 76) 3 4 (μ 59 4)) 3 5 (μ 59 5)) 16 = zcs μ 3 59 16)
    | 14, _ =>
      obtain rfl : (Sum.inr (0, 20) : zS) = sp := Option.some.inj hk
      exact (rfl : (zup (zup (zcp (zcp (zcp (zcp (zcp (zcp (zcp (zcp (zcp (zcp (zup (zup (zcp (zcp (zcp (zcp (zcp (zup μ 4 0 (μ 60 0)) 5 61) 6 62) 7 63) 8 64) 9 65) 10 0 (μ 66 0)) 10 1 (μ 66 1)) 11 67) 12 68) 13 69) 14 70) 15 71) 16 72) 17 73) 18 74) 19 75) 20 76) 3 4 (μ 59 4)) 3 5 (μ 59 5)) 17 = zcs μ 3 59 17)
    | 15, _ =>
      obtain rfl : (Sum.inr (0, 20) : zS) = sp := Option.some.inj hk
      exact (rfl : (zup (zup (zcp (zcp (zcp (zcp (zcp (zcp (zcp (zcp (zcp (zcp (zup (zup (zcp (zcp (zcp (zcp (zcp (zup μ 4 0 (μ 60 0)) 5 61) 6 62) 7 63) 8 64) 9 65) 10 0 (μ 66 0)) 10 1 (μ 66 1)) 11 67) 12 68) 13 69) 14 70) 15 71) 16 72) 17 73) 18 74) 19 75) 20 76) 3 4 (μ 59 4)) 3 5 (μ 59 5)) 18 = zcs μ 3 59 18)
    | 16, _ =>
      obtain rfl : (Sum.inr (0, 10) : zS) = sp := Option.some.inj hk
      exact (rfl : (zup (zup (zcp (zcp (zcp (zcp (zcp (zcp (zcp (zcp (zcp (zcp (zup (zup (zcp (zcp (zcp (zcp (zcp (zup μ 4 0 (μ 60 0)) 5 61) 6 62) 7 63) 8 64) 9 65) 10 0 (μ 66 0)) 10 1 (μ 66 1)) 11 67) 12 68) 13 69) 14 70) 15 71) 16 72) 17 73) 18 74) 19 75) 20 76) 3 4 (μ 59 4)) 3 5 (μ 59 5)) 19 = zcs μ 3 59 19)
    | 17, _ =>
      obtain rfl : (Sum.inr (0, 10) : zS) = sp := Option.some.inj hk
      exact (rfl : (zup (zup (zcp (zcp (zcp (zcp (zcp (zcp (zcp (zcp (zcp (zcp (zup (zup (zcp (zcp (zcp (zcp (zcp (zup μ 4 0 (μ 60 0)) 5 61) 6 62) 7 63) 8 64) 9 65) 10 0 (μ 66 0)) 10 1 (μ 66 1)) 11 67) 12 68) 13 69) 14 70) 15 71) 16 72) 17 73) 18 74) 19 75) 20 76) 3 4 (μ 59 4)) 3 5 (μ 59 5)) 20 = zcs μ 3 59 20)
    | o + 18, h => omega
set_option maxHeartbeats 4000000 in
set_option maxRecDepth 100000 in
theorem xz_copyFrom_3_59 {μ : zM} : Dz md_1_copyFrom [zr 3, zr 59] zSh μ none zSh (zcs μ 3 59) := by
  refine Dz.of (by decide) rfl rfl (show Ez md_1_copyFrom 0 0 0 [(0, zr 3), (1, zr 59)] [] zSh μ none zSh (zcs μ 3 59) from ?_)
  refine Az.blk kd_1_copyFrom_0 (show Ez md_1_copyFrom 0 0 8 [(0, zr 3), (1, zr 59)] [zr 60, zr 4] zSh μ _ _ _ from ?_)
  refine Az.cVN (mc := md_4_copyWordsFrom) (k := 4) (n := 1) (As := [zr 60]) (rest := []) kr_1_copyFrom_8 zw_263 ok_4_copyWordsFrom rfl rfl rfl trivial (xz_copyWordsFrom_4_60) rfl rfl (show Ez md_1_copyFrom 0 0 11 [(0, zr 3), (1, zr 59)] [] zSh (zcp (zcp (zcp (zcp (zcp (zup μ 4 0 (μ 60 0)) 5 61) 6 62) 7 63) 8 64) 9 65) _ _ _ from ?_)
  refine Az.blk kd_1_copyFrom_11 (show Ez md_1_copyFrom 0 0 19 [(0, zr 3), (1, zr 59)] [zr 66, zr 10] zSh (zcp (zcp (zcp (zcp (zcp (zup μ 4 0 (μ 60 0)) 5 61) 6 62) 7 63) 8 64) 9 65) _ _ _ from ?_)
  refine Az.cVN (mc := md_2_copyTaleFrom) (k := 10) (n := 1) (As := [zr 66]) (rest := []) kr_1_copyFrom_19 zw_276 ok_2_copyTaleFrom rfl rfl rfl trivial (xz_copyTaleFrom_10_66) rfl rfl (show Ez md_1_copyFrom 0 0 22 [(0, zr 3), (1, zr 59)] [] zSh (zcp (zcp (zcp (zcp (zcp (zcp (zcp (zcp (zup (zup (zcp (zcp (zcp (zcp (zcp (zup μ 4 0 (μ 60 0)) 5 61) 6 62) 7 63) 8 64) 9 65) 10 0 (μ 66 0)) 10 1 (μ 66 1)) 11 67) 12 68) 13 69) 14 70) 15 71) 16 72) 17 73) 18 74) _ _ _ from ?_)
  refine Az.blk kd_1_copyFrom_22 (show Ez md_1_copyFrom 0 0 30 [(0, zr 3), (1, zr 59)] [zr 19, zr 75] zSh (zcp (zcp (zcp (zcp (zcp (zcp (zcp (zcp (zup (zup (zcp (zcp (zcp (zcp (zcp (zup μ 4 0 (μ 60 0)) 5 61) 6 62) 7 63) 8 64) 9 65) 10 0 (μ 66 0)) 10 1 (μ 66 1)) 11 67) 12 68) 13 69) 14 70) 15 71) 16 72) 17 73) 18 74) _ _ _ from ?_)
  refine Az.cSN (mc := md_5_copyRow) (n := 2) (As := [zr 75, zr 19]) (rest := []) kr_1_copyFrom_30 zw_281 ok_5_copyRow rfl rfl (xz_copyRow 75 19 10 rfl rfl (by decide)) rfl rfl (show Ez md_1_copyFrom 0 0 33 [(0, zr 3), (1, zr 59)] [] zSh (zcp (zcp (zcp (zcp (zcp (zcp (zcp (zcp (zcp (zup (zup (zcp (zcp (zcp (zcp (zcp (zup μ 4 0 (μ 60 0)) 5 61) 6 62) 7 63) 8 64) 9 65) 10 0 (μ 66 0)) 10 1 (μ 66 1)) 11 67) 12 68) 13 69) 14 70) 15 71) 16 72) 17 73) 18 74) 19 75) _ _ _ from ?_)
  refine Az.blk kd_1_copyFrom_33 (show Ez md_1_copyFrom 0 0 41 [(0, zr 3), (1, zr 59)] [zr 20, zr 76] zSh (zcp (zcp (zcp (zcp (zcp (zcp (zcp (zcp (zcp (zup (zup (zcp (zcp (zcp (zcp (zcp (zup μ 4 0 (μ 60 0)) 5 61) 6 62) 7 63) 8 64) 9 65) 10 0 (μ 66 0)) 10 1 (μ 66 1)) 11 67) 12 68) 13 69) 14 70) 15 71) 16 72) 17 73) 18 74) 19 75) _ _ _ from ?_)
  refine Az.cSN (mc := md_5_copyRow) (n := 2) (As := [zr 76, zr 20]) (rest := []) kr_1_copyFrom_41 zw_281 ok_5_copyRow rfl rfl (xz_copyRow 76 20 10 rfl rfl (by decide)) rfl rfl (show Ez md_1_copyFrom 0 0 44 [(0, zr 3), (1, zr 59)] [] zSh (zcp (zcp (zcp (zcp (zcp (zcp (zcp (zcp (zcp (zcp (zup (zup (zcp (zcp (zcp (zcp (zcp (zup μ 4 0 (μ 60 0)) 5 61) 6 62) 7 63) 8 64) 9 65) 10 0 (μ 66 0)) 10 1 (μ 66 1)) 11 67) 12 68) 13 69) 14 70) 15 71) 16 72) 17 73) 18 74) 19 75) 20 76) _ _ _ from ?_)
  refine Az.blk kd_1_copyFrom_44 (show Ez md_1_copyFrom 0 0 60 [(0, zr 3), (1, zr 59)] [] zSh (zup (zup (zcp (zcp (zcp (zcp (zcp (zcp (zcp (zcp (zcp (zcp (zup (zup (zcp (zcp (zcp (zcp (zcp (zup μ 4 0 (μ 60 0)) 5 61) 6 62) 7 63) 8 64) 9 65) 10 0 (μ 66 0)) 10 1 (μ 66 1)) 11 67) 12 68) 13 69) 14 70) 15 71) 16 72) 17 73) 18 74) 19 75) 20 76) 3 4 (μ 59 4)) 3 5 (μ 59 5)) _ _ _ from ?_)
  refine Az.mem (μ' := zcs μ 3 59) (fun G k sp H hk h => by rw [← zsm_cell (zsm_3_59 μ) hk]; exact h) ?_
  exact Ez.vret kr_1_copyFrom_60 rfl (Nat.zero_le _) (Nat.zero_le _) rfl rfl
set_option maxHeartbeats 4000000 in
set_option maxRecDepth 100000 in
theorem xz_copyWordsFrom_4_78 {μ : zM} : Dz md_4_copyWordsFrom [zr 4, zr 78] zSh μ none zSh (zcp (zcp (zcp (zcp (zcp (zup μ 4 0 (μ 78 0)) 5 79) 6 80) 7 81) 8 82) 9 83) := by
  refine Dz.of (by decide) rfl rfl (show Ez md_4_copyWordsFrom 0 0 0 [(0, zr 4), (1, zr 78)] [] zSh μ none zSh (zcp (zcp (zcp (zcp (zcp (zup μ 4 0 (μ 78 0)) 5 79) 6 80) 7 81) 8 82) 9 83) from ?_)
  refine Az.blk kd_4_copyWordsFrom_0 (show Ez md_4_copyWordsFrom 0 0 16 [(0, zr 4), (1, zr 78)] [zr 5, zr 79] zSh (zup μ 4 0 (μ 78 0)) _ _ _ from ?_)
  refine Az.cSN (mc := md_5_copyRow) (n := 2) (As := [zr 79, zr 5]) (rest := []) kr_4_copyWordsFrom_16 zw_267 ok_5_copyRow rfl rfl (xz_copyRow 79 5 24 rfl rfl (by decide)) rfl rfl (show Ez md_4_copyWordsFrom 0 0 19 [(0, zr 4), (1, zr 78)] [] zSh (zcp (zup μ 4 0 (μ 78 0)) 5 79) _ _ _ from ?_)
  refine Az.blk kd_4_copyWordsFrom_19 (show Ez md_4_copyWordsFrom 0 0 27 [(0, zr 4), (1, zr 78)] [zr 6, zr 80] zSh (zcp (zup μ 4 0 (μ 78 0)) 5 79) _ _ _ from ?_)
  refine Az.cSN (mc := md_5_copyRow) (n := 2) (As := [zr 80, zr 6]) (rest := []) kr_4_copyWordsFrom_27 zw_267 ok_5_copyRow rfl rfl (xz_copyRow 80 6 24 rfl rfl (by decide)) rfl rfl (show Ez md_4_copyWordsFrom 0 0 30 [(0, zr 4), (1, zr 78)] [] zSh (zcp (zcp (zup μ 4 0 (μ 78 0)) 5 79) 6 80) _ _ _ from ?_)
  refine Az.blk kd_4_copyWordsFrom_30 (show Ez md_4_copyWordsFrom 0 0 38 [(0, zr 4), (1, zr 78)] [zr 7, zr 81] zSh (zcp (zcp (zup μ 4 0 (μ 78 0)) 5 79) 6 80) _ _ _ from ?_)
  refine Az.cSN (mc := md_5_copyRow) (n := 2) (As := [zr 81, zr 7]) (rest := []) kr_4_copyWordsFrom_38 zw_267 ok_5_copyRow rfl rfl (xz_copyRow 81 7 24 rfl rfl (by decide)) rfl rfl (show Ez md_4_copyWordsFrom 0 0 41 [(0, zr 4), (1, zr 78)] [] zSh (zcp (zcp (zcp (zup μ 4 0 (μ 78 0)) 5 79) 6 80) 7 81) _ _ _ from ?_)
  refine Az.blk kd_4_copyWordsFrom_41 (show Ez md_4_copyWordsFrom 0 0 49 [(0, zr 4), (1, zr 78)] [zr 8, zr 82] zSh (zcp (zcp (zcp (zup μ 4 0 (μ 78 0)) 5 79) 6 80) 7 81) _ _ _ from ?_)
  refine Az.cSN (mc := md_5_copyRow) (n := 2) (As := [zr 82, zr 8]) (rest := []) kr_4_copyWordsFrom_49 zw_267 ok_5_copyRow rfl rfl (xz_copyRow 82 8 192 rfl rfl (by decide)) rfl rfl (show Ez md_4_copyWordsFrom 0 0 52 [(0, zr 4), (1, zr 78)] [] zSh (zcp (zcp (zcp (zcp (zup μ 4 0 (μ 78 0)) 5 79) 6 80) 7 81) 8 82) _ _ _ from ?_)
  refine Az.blk kd_4_copyWordsFrom_52 (show Ez md_4_copyWordsFrom 0 0 60 [(0, zr 4), (1, zr 78)] [zr 9, zr 83] zSh (zcp (zcp (zcp (zcp (zup μ 4 0 (μ 78 0)) 5 79) 6 80) 7 81) 8 82) _ _ _ from ?_)
  refine Az.cSN (mc := md_5_copyRow) (n := 2) (As := [zr 83, zr 9]) (rest := []) kr_4_copyWordsFrom_60 zw_267 ok_5_copyRow rfl rfl (xz_copyRow 83 9 18 rfl rfl (by decide)) rfl rfl (show Ez md_4_copyWordsFrom 0 0 63 [(0, zr 4), (1, zr 78)] [] zSh (zcp (zcp (zcp (zcp (zcp (zup μ 4 0 (μ 78 0)) 5 79) 6 80) 7 81) 8 82) 9 83) _ _ _ from ?_)
  exact Ez.vret kr_4_copyWordsFrom_63 rfl (Nat.zero_le _) (Nat.zero_le _) rfl rfl
set_option maxHeartbeats 4000000 in
set_option maxRecDepth 100000 in
theorem xz_copyTaleFrom_10_84 {μ : zM} : Dz md_2_copyTaleFrom [zr 10, zr 84] zSh μ none zSh (zcp (zcp (zcp (zcp (zcp (zcp (zcp (zcp (zup (zup μ 10 0 (μ 84 0)) 10 1 (μ 84 1)) 11 85) 12 86) 13 87) 14 88) 15 89) 16 90) 17 91) 18 92) := by
  refine Dz.of (by decide) rfl rfl (show Ez md_2_copyTaleFrom 0 0 0 [(0, zr 10), (1, zr 84)] [] zSh μ none zSh (zcp (zcp (zcp (zcp (zcp (zcp (zcp (zcp (zup (zup μ 10 0 (μ 84 0)) 10 1 (μ 84 1)) 11 85) 12 86) 13 87) 14 88) 15 89) 16 90) 17 91) 18 92) from ?_)
  refine Az.blk kd_2_copyTaleFrom_0 (show Ez md_2_copyTaleFrom 0 0 24 [(0, zr 10), (1, zr 84)] [zr 11, zr 85] zSh (zup (zup μ 10 0 (μ 84 0)) 10 1 (μ 84 1)) _ _ _ from ?_)
  refine Az.cSN (mc := md_5_copyRow) (n := 2) (As := [zr 85, zr 11]) (rest := []) kr_2_copyTaleFrom_24 zw_280 ok_5_copyRow rfl rfl (xz_copyRow 85 11 20 rfl rfl (by decide)) rfl rfl (show Ez md_2_copyTaleFrom 0 0 27 [(0, zr 10), (1, zr 84)] [] zSh (zcp (zup (zup μ 10 0 (μ 84 0)) 10 1 (μ 84 1)) 11 85) _ _ _ from ?_)
  refine Az.blk kd_2_copyTaleFrom_27 (show Ez md_2_copyTaleFrom 0 0 35 [(0, zr 10), (1, zr 84)] [zr 12, zr 86] zSh (zcp (zup (zup μ 10 0 (μ 84 0)) 10 1 (μ 84 1)) 11 85) _ _ _ from ?_)
  refine Az.cSN (mc := md_5_copyRow) (n := 2) (As := [zr 86, zr 12]) (rest := []) kr_2_copyTaleFrom_35 zw_280 ok_5_copyRow rfl rfl (xz_copyRow 86 12 20 rfl rfl (by decide)) rfl rfl (show Ez md_2_copyTaleFrom 0 0 38 [(0, zr 10), (1, zr 84)] [] zSh (zcp (zcp (zup (zup μ 10 0 (μ 84 0)) 10 1 (μ 84 1)) 11 85) 12 86) _ _ _ from ?_)
  refine Az.blk kd_2_copyTaleFrom_38 (show Ez md_2_copyTaleFrom 0 0 46 [(0, zr 10), (1, zr 84)] [zr 13, zr 87] zSh (zcp (zcp (zup (zup μ 10 0 (μ 84 0)) 10 1 (μ 84 1)) 11 85) 12 86) _ _ _ from ?_)
  refine Az.cSN (mc := md_5_copyRow) (n := 2) (As := [zr 87, zr 13]) (rest := []) kr_2_copyTaleFrom_46 zw_280 ok_5_copyRow rfl rfl (xz_copyRow 87 13 20 rfl rfl (by decide)) rfl rfl (show Ez md_2_copyTaleFrom 0 0 49 [(0, zr 10), (1, zr 84)] [] zSh (zcp (zcp (zcp (zup (zup μ 10 0 (μ 84 0)) 10 1 (μ 84 1)) 11 85) 12 86) 13 87) _ _ _ from ?_)
  refine Az.blk kd_2_copyTaleFrom_49 (show Ez md_2_copyTaleFrom 0 0 57 [(0, zr 10), (1, zr 84)] [zr 14, zr 88] zSh (zcp (zcp (zcp (zup (zup μ 10 0 (μ 84 0)) 10 1 (μ 84 1)) 11 85) 12 86) 13 87) _ _ _ from ?_)
  refine Az.cSN (mc := md_5_copyRow) (n := 2) (As := [zr 88, zr 14]) (rest := []) kr_2_copyTaleFrom_57 zw_280 ok_5_copyRow rfl rfl (xz_copyRow 88 14 60 rfl rfl (by decide)) rfl rfl (show Ez md_2_copyTaleFrom 0 0 60 [(0, zr 10), (1, zr 84)] [] zSh (zcp (zcp (zcp (zcp (zup (zup μ 10 0 (μ 84 0)) 10 1 (μ 84 1)) 11 85) 12 86) 13 87) 14 88) _ _ _ from ?_)
  refine Az.blk kd_2_copyTaleFrom_60 (show Ez md_2_copyTaleFrom 0 0 68 [(0, zr 10), (1, zr 84)] [zr 15, zr 89] zSh (zcp (zcp (zcp (zcp (zup (zup μ 10 0 (μ 84 0)) 10 1 (μ 84 1)) 11 85) 12 86) 13 87) 14 88) _ _ _ from ?_)
  refine Az.cSN (mc := md_5_copyRow) (n := 2) (As := [zr 89, zr 15]) (rest := []) kr_2_copyTaleFrom_68 zw_280 ok_5_copyRow rfl rfl (xz_copyRow 89 15 20 rfl rfl (by decide)) rfl rfl (show Ez md_2_copyTaleFrom 0 0 71 [(0, zr 10), (1, zr 84)] [] zSh (zcp (zcp (zcp (zcp (zcp (zup (zup μ 10 0 (μ 84 0)) 10 1 (μ 84 1)) 11 85) 12 86) 13 87) 14 88) 15 89) _ _ _ from ?_)
  refine Az.blk kd_2_copyTaleFrom_71 (show Ez md_2_copyTaleFrom 0 0 79 [(0, zr 10), (1, zr 84)] [zr 16, zr 90] zSh (zcp (zcp (zcp (zcp (zcp (zup (zup μ 10 0 (μ 84 0)) 10 1 (μ 84 1)) 11 85) 12 86) 13 87) 14 88) 15 89) _ _ _ from ?_)
  refine Az.cSN (mc := md_5_copyRow) (n := 2) (As := [zr 90, zr 16]) (rest := []) kr_2_copyTaleFrom_79 zw_280 ok_5_copyRow rfl rfl (xz_copyRow 90 16 20 rfl rfl (by decide)) rfl rfl (show Ez md_2_copyTaleFrom 0 0 82 [(0, zr 10), (1, zr 84)] [] zSh (zcp (zcp (zcp (zcp (zcp (zcp (zup (zup μ 10 0 (μ 84 0)) 10 1 (μ 84 1)) 11 85) 12 86) 13 87) 14 88) 15 89) 16 90) _ _ _ from ?_)
  refine Az.blk kd_2_copyTaleFrom_82 (show Ez md_2_copyTaleFrom 0 0 90 [(0, zr 10), (1, zr 84)] [zr 17, zr 91] zSh (zcp (zcp (zcp (zcp (zcp (zcp (zup (zup μ 10 0 (μ 84 0)) 10 1 (μ 84 1)) 11 85) 12 86) 13 87) 14 88) 15 89) 16 90) _ _ _ from ?_)
  refine Az.cSN (mc := md_5_copyRow) (n := 2) (As := [zr 91, zr 17]) (rest := []) kr_2_copyTaleFrom_90 zw_280 ok_5_copyRow rfl rfl (xz_copyRow 91 17 20 rfl rfl (by decide)) rfl rfl (show Ez md_2_copyTaleFrom 0 0 93 [(0, zr 10), (1, zr 84)] [] zSh (zcp (zcp (zcp (zcp (zcp (zcp (zcp (zup (zup μ 10 0 (μ 84 0)) 10 1 (μ 84 1)) 11 85) 12 86) 13 87) 14 88) 15 89) 16 90) 17 91) _ _ _ from ?_)
  refine Az.blk kd_2_copyTaleFrom_93 (show Ez md_2_copyTaleFrom 0 0 101 [(0, zr 10), (1, zr 84)] [zr 18, zr 92] zSh (zcp (zcp (zcp (zcp (zcp (zcp (zcp (zup (zup μ 10 0 (μ 84 0)) 10 1 (μ 84 1)) 11 85) 12 86) 13 87) 14 88) 15 89) 16 90) 17 91) _ _ _ from ?_)
  refine Az.cSN (mc := md_5_copyRow) (n := 2) (As := [zr 92, zr 18]) (rest := []) kr_2_copyTaleFrom_101 zw_280 ok_5_copyRow rfl rfl (xz_copyRow 92 18 20 rfl rfl (by decide)) rfl rfl (show Ez md_2_copyTaleFrom 0 0 104 [(0, zr 10), (1, zr 84)] [] zSh (zcp (zcp (zcp (zcp (zcp (zcp (zcp (zcp (zup (zup μ 10 0 (μ 84 0)) 10 1 (μ 84 1)) 11 85) 12 86) 13 87) 14 88) 15 89) 16 90) 17 91) 18 92) _ _ _ from ?_)
  exact Ez.vret kr_2_copyTaleFrom_104 rfl (Nat.zero_le _) (Nat.zero_le _) rfl rfl
set_option maxRecDepth 100000 in
theorem zsm_3_77 (μ : zM) : zsm zSh (zup (zup (zcp (zcp (zcp (zcp (zcp (zcp (zcp (zcp (zcp (zcp (zup (zup (zcp (zcp (zcp (zcp (zcp (zup μ 4 0 (μ 78 0)) 5 79) 6 80) 7 81) 8 82) 9 83) 10 0 (μ 84 0)) 10 1 (μ 84 1)) 11 85) 12 86) 13 87) 14 88) 15 89) 16 90) 17 91) 18 92) 19 93) 20 94) 3 4 (μ 77 4)) 3 5 (μ 77 5)) (zcs μ 3 77) := by
  intro k sp hk
  by_cases e : k < 3 ∨ 21 ≤ k
  · have e1 : (zup (zup (zcp (zcp (zcp (zcp (zcp (zcp (zcp (zcp (zcp (zcp (zup (zup (zcp (zcp (zcp (zcp (zcp (zup μ 4 0 (μ 78 0)) 5 79) 6 80) 7 81) 8 82) 9 83) 10 0 (μ 84 0)) 10 1 (μ 84 1)) 11 85) 12 86) 13 87) 14 88) 15 89) 16 90) 17 91) 18 92) 19 93) 20 94) 3 4 (μ 77 4)) 3 5 (μ 77 5)) k = μ k := by
      rw [zup_ne (by omega), zup_ne (by omega), zcp_ne (by omega), zcp_ne (by omega), zcp_ne (by omega), zcp_ne (by omega), zcp_ne (by omega), zcp_ne (by omega), zcp_ne (by omega), zcp_ne (by omega), zcp_ne (by omega), zcp_ne (by omega), zup_ne (by omega), zup_ne (by omega), zcp_ne (by omega), zcp_ne (by omega), zcp_ne (by omega), zcp_ne (by omega), zcp_ne (by omega), zup_ne (by omega)]
    have e2 : zcs μ 3 77 k = μ k := zcs_ne (by omega)
    rcases sp with p | p
    · intro j _; rw [e1, e2]
    · show _ = _; rw [e1, e2]
  · obtain ⟨o, ho, rfl⟩ : ∃ o, o < 18 ∧ k = 3 + o := ⟨k - 3, by omega, by omega⟩
    match o, ho with
    | 0, _ =>
      obtain rfl : (Sum.inl (1, [some (some 4), some (some 10), some (some 19), some (some 20), none, none]) : zS) = sp := Option.some.inj hk
      intro j hj
      match j, hj with
      | 0, h => exact absurd h (by decide)
      | 1, h => exact absurd h (by decide)
      | 2, h => exact absurd h (by decide)
      | 3, h => exact absurd h (by decide)
      | 4, _ => exact (rfl : (zup (zup (zcp (zcp (zcp (zcp (zcp (zcp (zcp (zcp (zcp (zcp (zup (zup (zcp (zcp (zcp (zcp (zcp (zup μ 4 0 (μ 78 0)) 5 79) 6 80) 7 81) 8 82) 9 83) 10 0 (μ 84 0)) 10 1 (μ 84 1)) 11 85) 12 86) 13 87) 14 88) 15 89) 16 90) 17 91) 18 92) 19 93) 20 94) 3 4 (μ 77 4)) 3 5 (μ 77 5)) 3 4 = zcs μ 3 77 3 4)
      | 5, _ => exact (rfl : (zup (zup (zcp (zcp (zcp (zcp (zcp (zcp (zcp (zcp (zcp (zcp (zup (zup (zcp (zcp (zcp (zcp (zcp (zup μ 4 0 (μ 78 0)) 5 79) 6 80) 7 81) 8 82) 9 83) 10 0 (μ 84 0)) 10 1 (μ 84 1)) 11 85) 12 86) 13 87) 14 88) 15 89) 16 90) 17 91) 18 92) 19 93) 20 94) 3 4 (μ 77 4)) 3 5 (μ 77 5)) 3 5 = zcs μ 3 77 3 5)
      | j + 6, h => simp at h
    | 1, _ =>
      obtain rfl : (Sum.inl (4, [none, some (some 5), some (some 6), some (some 7), some (some 8), some (some 9)]) : zS) = sp := Option.some.inj hk
      intro j hj
      match j, hj with
      | 0, _ => exact (rfl : (zup (zup (zcp (zcp (zcp (zcp (zcp (zcp (zcp (zcp (zcp (zcp (zup (zup (zcp (zcp (zcp (zcp (zcp (zup μ 4 0 (μ 78 0)) 5 79) 6 80) 7 81) 8 82) 9 83) 10 0 (μ 84 0)) 10 1 (μ 84 1)) 11 85) 12 86) 13 87) 14 88) 15 89) 16 90) 17 91) 18 92) 19 93) 20 94) 3 4 (μ 77 4)) 3 5 (μ 77 5)) 4 0 = zcs μ 3 77 4 0)
      | 1, h => exact absurd h (by decide)
      | 2, h => exact absurd h (by decide)
      | 3, h => exact absurd h (by decide)
      | 4, h => exact absurd h (by decide)
      | 5, h => exact absurd h (by decide)
      | j + 6, h => simp at h
    | 2, _ =>
      obtain rfl : (Sum.inr (0, 24) : zS) = sp := Option.some.inj hk
      exact (rfl : (zup (zup (zcp (zcp (zcp (zcp (zcp (zcp (zcp (zcp (zcp (zcp (zup (zup (zcp (zcp (zcp (zcp (zcp (zup μ 4 0 (μ 78 0)) 5 79) 6 80) 7 81) 8 82) 9 83) 10 0 (μ 84 0)) 10 1 (μ 84 1)) 11 85) 12 86) 13 87) 14 88) 15 89) 16 90) 17 91) 18 92) 19 93) 20 94) 3 4 (μ 77 4)) 3 5 (μ 77 5)) 5 = zcs μ 3 77 5)
    | 3, _ =>
      obtain rfl : (Sum.inr (0, 24) : zS) = sp := Option.some.inj hk
      exact (rfl : (zup (zup (zcp (zcp (zcp (zcp (zcp (zcp (zcp (zcp (zcp (zcp (zup (zup (zcp (zcp (zcp (zcp (zcp (zup μ 4 0 (μ 78 0)) 5 79) 6 80) 7 81) 8 82) 9 83) 10 0 (μ 84 0)) 10 1 (μ 84 1)) 11 85) 12 86) 13 87) 14 88) 15 89) 16 90) 17 91) 18 92) 19 93) 20 94) 3 4 (μ 77 4)) 3 5 (μ 77 5)) 6 = zcs μ 3 77 6)
    | 4, _ =>
      obtain rfl : (Sum.inr (0, 24) : zS) = sp := Option.some.inj hk
      exact (rfl : (zup (zup (zcp (zcp (zcp (zcp (zcp (zcp (zcp (zcp (zcp (zcp (zup (zup (zcp (zcp (zcp (zcp (zcp (zup μ 4 0 (μ 78 0)) 5 79) 6 80) 7 81) 8 82) 9 83) 10 0 (μ 84 0)) 10 1 (μ 84 1)) 11 85) 12 86) 13 87) 14 88) 15 89) 16 90) 17 91) 18 92) 19 93) 20 94) 3 4 (μ 77 4)) 3 5 (μ 77 5)) 7 = zcs μ 3 77 7)
    | 5, _ =>
      obtain rfl : (Sum.inr (0, 192) : zS) = sp := Option.some.inj hk
      exact (rfl : (zup (zup (zcp (zcp (zcp (zcp (zcp (zcp (zcp (zcp (zcp (zcp (zup (zup (zcp (zcp (zcp (zcp (zcp (zup μ 4 0 (μ 78 0)) 5 79) 6 80) 7 81) 8 82) 9 83) 10 0 (μ 84 0)) 10 1 (μ 84 1)) 11 85) 12 86) 13 87) 14 88) 15 89) 16 90) 17 91) 18 92) 19 93) 20 94) 3 4 (μ 77 4)) 3 5 (μ 77 5)) 8 = zcs μ 3 77 8)
    | 6, _ =>
      obtain rfl : (Sum.inr (0, 18) : zS) = sp := Option.some.inj hk
      exact (rfl : (zup (zup (zcp (zcp (zcp (zcp (zcp (zcp (zcp (zcp (zcp (zcp (zup (zup (zcp (zcp (zcp (zcp (zcp (zup μ 4 0 (μ 78 0)) 5 79) 6 80) 7 81) 8 82) 9 83) 10 0 (μ 84 0)) 10 1 (μ 84 1)) 11 85) 12 86) 13 87) 14 88) 15 89) 16 90) 17 91) 18 92) 19 93) 20 94) 3 4 (μ 77 4)) 3 5 (μ 77 5)) 9 = zcs μ 3 77 9)
    | 7, _ =>
      obtain rfl : (Sum.inl (2, [none, none, some (some 11), some (some 12), some (some 13), some (some 14), some (some 15), some (some 16), some (some 17), some (some 18)]) : zS) = sp := Option.some.inj hk
      intro j hj
      match j, hj with
      | 0, _ => exact (rfl : (zup (zup (zcp (zcp (zcp (zcp (zcp (zcp (zcp (zcp (zcp (zcp (zup (zup (zcp (zcp (zcp (zcp (zcp (zup μ 4 0 (μ 78 0)) 5 79) 6 80) 7 81) 8 82) 9 83) 10 0 (μ 84 0)) 10 1 (μ 84 1)) 11 85) 12 86) 13 87) 14 88) 15 89) 16 90) 17 91) 18 92) 19 93) 20 94) 3 4 (μ 77 4)) 3 5 (μ 77 5)) 10 0 = zcs μ 3 77 10 0)
      | 1, _ => exact (rfl : (zup (zup (zcp (zcp (zcp (zcp (zcp (zcp (zcp (zcp (zcp (zcp (zup (zup (zcp (zcp (zcp (zcp (zcp (zup μ 4 0 (μ 78 0)) 5 79) 6 80) 7 81) 8 82) 9 83) 10 0 (μ 84 0)) 10 1 (μ 84 1)) 11 85) 12 86) 13 87) 14 88) 15 89) 16 90) 17 91) 18 92) 19 93) 20 94) 3 4 (μ 77 4)) 3 5 (μ 77 5)) 10 1 = zcs μ 3 77 10 1)
      | 2, h => exact absurd h (by decide)
      | 3, h => exact absurd h (by decide)
      | 4, h => exact absurd h (by decide)
      | 5, h => exact absurd h (by decide)
      | 6, h => exact absurd h (by decide)
      | 7, h => exact absurd h (by decide)
      | 8, h => exact absurd h (by decide)
      | 9, h => exact absurd h (by decide)
      | j + 10, h => simp at h
    | 8, _ =>
      obtain rfl : (Sum.inr (0, 20) : zS) = sp := Option.some.inj hk
      exact (rfl : (zup (zup (zcp (zcp (zcp (zcp (zcp (zcp (zcp (zcp (zcp (zcp (zup (zup (zcp (zcp (zcp (zcp (zcp (zup μ 4 0 (μ 78 0)) 5 79) 6 80) 7 81) 8 82) 9 83) 10 0 (μ 84 0)) 10 1 (μ 84 1)) 11 85) 12 86) 13 87) 14 88) 15 89) 16 90) 17 91) 18 92) 19 93) 20 94) 3 4 (μ 77 4)) 3 5 (μ 77 5)) 11 = zcs μ 3 77 11)
    | 9, _ =>
      obtain rfl : (Sum.inr (0, 20) : zS) = sp := Option.some.inj hk
      exact (rfl : (zup (zup (zcp (zcp (zcp (zcp (zcp (zcp (zcp (zcp (zcp (zcp (zup (zup (zcp (zcp (zcp (zcp (zcp (zup μ 4 0 (μ 78 0)) 5 79) 6 80) 7 81) 8 82) 9 83) 10 0 (μ 84 0)) 10 1 (μ 84 1)) 11 85) 12 86) 13 87) 14 88) 15 89) 16 90) 17 91) 18 92) 19 93) 20 94) 3 4 (μ 77 4)) 3 5 (μ 77 5)) 12 = zcs μ 3 77 12)
    | 10, _ =>
      obtain rfl : (Sum.inr (0, 20) : zS) = sp := Option.some.inj hk
      exact (rfl : (zup (zup (zcp (zcp (zcp (zcp (zcp (zcp (zcp (zcp (zcp (zcp (zup (zup (zcp (zcp (zcp (zcp (zcp (zup μ 4 0 (μ 78 0)) 5 79) 6 80) 7 81) 8 82) 9 83) 10 0 (μ 84 0)) 10 1 (μ 84 1)) 11 85) 12 86) 13 87) 14 88) 15 89) 16 90) 17 91) 18 92) 19 93) 20 94) 3 4 (μ 77 4)) 3 5 (μ 77 5)) 13 = zcs μ 3 77 13)
    | 11, _ =>
      obtain rfl : (Sum.inr (0, 60) : zS) = sp := Option.some.inj hk
      exact (rfl : (zup (zup (zcp (zcp (zcp (zcp (zcp (zcp (zcp (zcp (zcp (zcp (zup (zup (zcp (zcp (zcp (zcp (zcp (zup μ 4 0 (μ 78 0)) 5 79) 6 80) 7 81) 8 82) 9 83) 10 0 (μ 84 0)) 10 1 (μ 84 1)) 11 85) 12 86) 13 87) 14 88) 15 89) 16 90) 17 91) 18 92) 19 93) 20 94) 3 4 (μ 77 4)) 3 5 (μ 77 5)) 14 = zcs μ 3 77 14)
    | 12, _ =>
      obtain rfl : (Sum.inr (0, 20) : zS) = sp := Option.some.inj hk
      exact (rfl : (zup (zup (zcp (zcp (zcp (zcp (zcp (zcp (zcp (zcp (zcp (zcp (zup (zup (zcp (zcp (zcp (zcp (zcp (zup μ 4 0 (μ 78 0)) 5 79) 6 80) 7 81) 8 82) 9 83) 10 0 (μ 84 0)) 10 1 (μ 84 1)) 11 85) 12 86) 13 87) 14 88) 15 89) 16 90) 17 91) 18 92) 19 93) 20 94) 3 4 (μ 77 4)) 3 5 (μ 77 5)) 15 = zcs μ 3 77 15)
    | 13, _ =>
      obtain rfl : (Sum.inr (0, 20) : zS) = sp := Option.some.inj hk
      exact (rfl : (zup (zup (zcp (zcp (zcp (zcp (zcp (zcp (zcp (zcp (zcp (zcp (zup (zup (zcp (zcp (zcp (zcp (zcp (zup μ 4 0 (μ 78 0)) 5 79) 6 80) 7 81) 8 82) 9 83) 10 0 (μ 84 0)) 10 1 (μ 84 1)) 11 85) 12 86) 13 87) 14 88) 15 89) 16 90) 17 91) 18 92) 19 93) 20 94) 3 4 (μ 77 4)) 3 5 (μ 77 5)) 16 = zcs μ 3 77 16)
    | 14, _ =>
      obtain rfl : (Sum.inr (0, 20) : zS) = sp := Option.some.inj hk
      exact (rfl : (zup (zup (zcp (zcp (zcp (zcp (zcp (zcp (zcp (zcp (zcp (zcp (zup (zup (zcp (zcp (zcp (zcp (zcp (zup μ 4 0 (μ 78 0)) 5 79) 6 80) 7 81) 8 82) 9 83) 10 0 (μ 84 0)) 10 1 (μ 84 1)) 11 85) 12 86) 13 87) 14 88) 15 89) 16 90) 17 91) 18 92) 19 93) 20 94) 3 4 (μ 77 4)) 3 5 (μ 77 5)) 17 = zcs μ 3 77 17)
    | 15, _ =>
      obtain rfl : (Sum.inr (0, 20) : zS) = sp := Option.some.inj hk
      exact (rfl : (zup (zup (zcp (zcp (zcp (zcp (zcp (zcp (zcp (zcp (zcp (zcp (zup (zup (zcp (zcp (zcp (zcp (zcp (zup μ 4 0 (μ 78 0)) 5 79) 6 80) 7 81) 8 82) 9 83) 10 0 (μ 84 0)) 10 1 (μ 84 1)) 11 85) 12 86) 13 87) 14 88) 15 89) 16 90) 17 91) 18 92) 19 93) 20 94) 3 4 (μ 77 4)) 3 5 (μ 77 5)) 18 = zcs μ 3 77 18)
    | 16, _ =>
      obtain rfl : (Sum.inr (0, 10) : zS) = sp := Option.some.inj hk
      exact (rfl : (zup (zup (zcp (zcp (zcp (zcp (zcp (zcp (zcp (zcp (zcp (zcp (zup (zup (zcp (zcp (zcp (zcp (zcp (zup μ 4 0 (μ 78 0)) 5 79) 6 80) 7 81) 8 82) 9 83) 10 0 (μ 84 0)) 10 1 (μ 84 1)) 11 85) 12 86) 13 87) 14 88) 15 89) 16 90) 17 91) 18 92) 19 93) 20 94) 3 4 (μ 77 4)) 3 5 (μ 77 5)) 19 = zcs μ 3 77 19)
    | 17, _ =>
      obtain rfl : (Sum.inr (0, 10) : zS) = sp := Option.some.inj hk
      exact (rfl : (zup (zup (zcp (zcp (zcp (zcp (zcp (zcp (zcp (zcp (zcp (zcp (zup (zup (zcp (zcp (zcp (zcp (zcp (zup μ 4 0 (μ 78 0)) 5 79) 6 80) 7 81) 8 82) 9 83) 10 0 (μ 84 0)) 10 1 (μ 84 1)) 11 85) 12 86) 13 87) 14 88) 15 89) 16 90) 17 91) 18 92) 19 93) 20 94) 3 4 (μ 77 4)) 3 5 (μ 77 5)) 20 = zcs μ 3 77 20)
    | o + 18, h => omega
set_option maxHeartbeats 4000000 in
set_option maxRecDepth 100000 in
theorem xz_copyFrom_3_77 {μ : zM} : Dz md_1_copyFrom [zr 3, zr 77] zSh μ none zSh (zcs μ 3 77) := by
  refine Dz.of (by decide) rfl rfl (show Ez md_1_copyFrom 0 0 0 [(0, zr 3), (1, zr 77)] [] zSh μ none zSh (zcs μ 3 77) from ?_)
  refine Az.blk kd_1_copyFrom_0 (show Ez md_1_copyFrom 0 0 8 [(0, zr 3), (1, zr 77)] [zr 78, zr 4] zSh μ _ _ _ from ?_)
  refine Az.cVN (mc := md_4_copyWordsFrom) (k := 4) (n := 1) (As := [zr 78]) (rest := []) kr_1_copyFrom_8 zw_263 ok_4_copyWordsFrom rfl rfl rfl trivial (xz_copyWordsFrom_4_78) rfl rfl (show Ez md_1_copyFrom 0 0 11 [(0, zr 3), (1, zr 77)] [] zSh (zcp (zcp (zcp (zcp (zcp (zup μ 4 0 (μ 78 0)) 5 79) 6 80) 7 81) 8 82) 9 83) _ _ _ from ?_)
  refine Az.blk kd_1_copyFrom_11 (show Ez md_1_copyFrom 0 0 19 [(0, zr 3), (1, zr 77)] [zr 84, zr 10] zSh (zcp (zcp (zcp (zcp (zcp (zup μ 4 0 (μ 78 0)) 5 79) 6 80) 7 81) 8 82) 9 83) _ _ _ from ?_)
  refine Az.cVN (mc := md_2_copyTaleFrom) (k := 10) (n := 1) (As := [zr 84]) (rest := []) kr_1_copyFrom_19 zw_276 ok_2_copyTaleFrom rfl rfl rfl trivial (xz_copyTaleFrom_10_84) rfl rfl (show Ez md_1_copyFrom 0 0 22 [(0, zr 3), (1, zr 77)] [] zSh (zcp (zcp (zcp (zcp (zcp (zcp (zcp (zcp (zup (zup (zcp (zcp (zcp (zcp (zcp (zup μ 4 0 (μ 78 0)) 5 79) 6 80) 7 81) 8 82) 9 83) 10 0 (μ 84 0)) 10 1 (μ 84 1)) 11 85) 12 86) 13 87) 14 88) 15 89) 16 90) 17 91) 18 92) _ _ _ from ?_)
  refine Az.blk kd_1_copyFrom_22 (show Ez md_1_copyFrom 0 0 30 [(0, zr 3), (1, zr 77)] [zr 19, zr 93] zSh (zcp (zcp (zcp (zcp (zcp (zcp (zcp (zcp (zup (zup (zcp (zcp (zcp (zcp (zcp (zup μ 4 0 (μ 78 0)) 5 79) 6 80) 7 81) 8 82) 9 83) 10 0 (μ 84 0)) 10 1 (μ 84 1)) 11 85) 12 86) 13 87) 14 88) 15 89) 16 90) 17 91) 18 92) _ _ _ from ?_)
  refine Az.cSN (mc := md_5_copyRow) (n := 2) (As := [zr 93, zr 19]) (rest := []) kr_1_copyFrom_30 zw_281 ok_5_copyRow rfl rfl (xz_copyRow 93 19 10 rfl rfl (by decide)) rfl rfl (show Ez md_1_copyFrom 0 0 33 [(0, zr 3), (1, zr 77)] [] zSh (zcp (zcp (zcp (zcp (zcp (zcp (zcp (zcp (zcp (zup (zup (zcp (zcp (zcp (zcp (zcp (zup μ 4 0 (μ 78 0)) 5 79) 6 80) 7 81) 8 82) 9 83) 10 0 (μ 84 0)) 10 1 (μ 84 1)) 11 85) 12 86) 13 87) 14 88) 15 89) 16 90) 17 91) 18 92) 19 93) _ _ _ from ?_)
  refine Az.blk kd_1_copyFrom_33 (show Ez md_1_copyFrom 0 0 41 [(0, zr 3), (1, zr 77)] [zr 20, zr 94] zSh (zcp (zcp (zcp (zcp (zcp (zcp (zcp (zcp (zcp (zup (zup (zcp (zcp (zcp (zcp (zcp (zup μ 4 0 (μ 78 0)) 5 79) 6 80) 7 81) 8 82) 9 83) 10 0 (μ 84 0)) 10 1 (μ 84 1)) 11 85) 12 86) 13 87) 14 88) 15 89) 16 90) 17 91) 18 92) 19 93) _ _ _ from ?_)
  refine Az.cSN (mc := md_5_copyRow) (n := 2) (As := [zr 94, zr 20]) (rest := []) kr_1_copyFrom_41 zw_281 ok_5_copyRow rfl rfl (xz_copyRow 94 20 10 rfl rfl (by decide)) rfl rfl (show Ez md_1_copyFrom 0 0 44 [(0, zr 3), (1, zr 77)] [] zSh (zcp (zcp (zcp (zcp (zcp (zcp (zcp (zcp (zcp (zcp (zup (zup (zcp (zcp (zcp (zcp (zcp (zup μ 4 0 (μ 78 0)) 5 79) 6 80) 7 81) 8 82) 9 83) 10 0 (μ 84 0)) 10 1 (μ 84 1)) 11 85) 12 86) 13 87) 14 88) 15 89) 16 90) 17 91) 18 92) 19 93) 20 94) _ _ _ from ?_)
  refine Az.blk kd_1_copyFrom_44 (show Ez md_1_copyFrom 0 0 60 [(0, zr 3), (1, zr 77)] [] zSh (zup (zup (zcp (zcp (zcp (zcp (zcp (zcp (zcp (zcp (zcp (zcp (zup (zup (zcp (zcp (zcp (zcp (zcp (zup μ 4 0 (μ 78 0)) 5 79) 6 80) 7 81) 8 82) 9 83) 10 0 (μ 84 0)) 10 1 (μ 84 1)) 11 85) 12 86) 13 87) 14 88) 15 89) 16 90) 17 91) 18 92) 19 93) 20 94) 3 4 (μ 77 4)) 3 5 (μ 77 5)) _ _ _ from ?_)
  refine Az.mem (μ' := zcs μ 3 77) (fun G k sp H hk h => by rw [← zsm_cell (zsm_3_77 μ) hk]; exact h) ?_
  exact Ez.vret kr_1_copyFrom_60 rfl (Nat.zero_le _) (Nat.zero_le _) rfl rfl
set_option maxHeartbeats 4000000 in
set_option maxRecDepth 100000 in
theorem xz_copyWordsFrom_4_96 {μ : zM} : Dz md_4_copyWordsFrom [zr 4, zr 96] zSh μ none zSh (zcp (zcp (zcp (zcp (zcp (zup μ 4 0 (μ 96 0)) 5 97) 6 98) 7 99) 8 100) 9 101) := by
  refine Dz.of (by decide) rfl rfl (show Ez md_4_copyWordsFrom 0 0 0 [(0, zr 4), (1, zr 96)] [] zSh μ none zSh (zcp (zcp (zcp (zcp (zcp (zup μ 4 0 (μ 96 0)) 5 97) 6 98) 7 99) 8 100) 9 101) from ?_)
  refine Az.blk kd_4_copyWordsFrom_0 (show Ez md_4_copyWordsFrom 0 0 16 [(0, zr 4), (1, zr 96)] [zr 5, zr 97] zSh (zup μ 4 0 (μ 96 0)) _ _ _ from ?_)
  refine Az.cSN (mc := md_5_copyRow) (n := 2) (As := [zr 97, zr 5]) (rest := []) kr_4_copyWordsFrom_16 zw_267 ok_5_copyRow rfl rfl (xz_copyRow 97 5 24 rfl rfl (by decide)) rfl rfl (show Ez md_4_copyWordsFrom 0 0 19 [(0, zr 4), (1, zr 96)] [] zSh (zcp (zup μ 4 0 (μ 96 0)) 5 97) _ _ _ from ?_)
  refine Az.blk kd_4_copyWordsFrom_19 (show Ez md_4_copyWordsFrom 0 0 27 [(0, zr 4), (1, zr 96)] [zr 6, zr 98] zSh (zcp (zup μ 4 0 (μ 96 0)) 5 97) _ _ _ from ?_)
  refine Az.cSN (mc := md_5_copyRow) (n := 2) (As := [zr 98, zr 6]) (rest := []) kr_4_copyWordsFrom_27 zw_267 ok_5_copyRow rfl rfl (xz_copyRow 98 6 24 rfl rfl (by decide)) rfl rfl (show Ez md_4_copyWordsFrom 0 0 30 [(0, zr 4), (1, zr 96)] [] zSh (zcp (zcp (zup μ 4 0 (μ 96 0)) 5 97) 6 98) _ _ _ from ?_)
  refine Az.blk kd_4_copyWordsFrom_30 (show Ez md_4_copyWordsFrom 0 0 38 [(0, zr 4), (1, zr 96)] [zr 7, zr 99] zSh (zcp (zcp (zup μ 4 0 (μ 96 0)) 5 97) 6 98) _ _ _ from ?_)
  refine Az.cSN (mc := md_5_copyRow) (n := 2) (As := [zr 99, zr 7]) (rest := []) kr_4_copyWordsFrom_38 zw_267 ok_5_copyRow rfl rfl (xz_copyRow 99 7 24 rfl rfl (by decide)) rfl rfl (show Ez md_4_copyWordsFrom 0 0 41 [(0, zr 4), (1, zr 96)] [] zSh (zcp (zcp (zcp (zup μ 4 0 (μ 96 0)) 5 97) 6 98) 7 99) _ _ _ from ?_)
  refine Az.blk kd_4_copyWordsFrom_41 (show Ez md_4_copyWordsFrom 0 0 49 [(0, zr 4), (1, zr 96)] [zr 8, zr 100] zSh (zcp (zcp (zcp (zup μ 4 0 (μ 96 0)) 5 97) 6 98) 7 99) _ _ _ from ?_)
  refine Az.cSN (mc := md_5_copyRow) (n := 2) (As := [zr 100, zr 8]) (rest := []) kr_4_copyWordsFrom_49 zw_267 ok_5_copyRow rfl rfl (xz_copyRow 100 8 192 rfl rfl (by decide)) rfl rfl (show Ez md_4_copyWordsFrom 0 0 52 [(0, zr 4), (1, zr 96)] [] zSh (zcp (zcp (zcp (zcp (zup μ 4 0 (μ 96 0)) 5 97) 6 98) 7 99) 8 100) _ _ _ from ?_)
  refine Az.blk kd_4_copyWordsFrom_52 (show Ez md_4_copyWordsFrom 0 0 60 [(0, zr 4), (1, zr 96)] [zr 9, zr 101] zSh (zcp (zcp (zcp (zcp (zup μ 4 0 (μ 96 0)) 5 97) 6 98) 7 99) 8 100) _ _ _ from ?_)
  refine Az.cSN (mc := md_5_copyRow) (n := 2) (As := [zr 101, zr 9]) (rest := []) kr_4_copyWordsFrom_60 zw_267 ok_5_copyRow rfl rfl (xz_copyRow 101 9 18 rfl rfl (by decide)) rfl rfl (show Ez md_4_copyWordsFrom 0 0 63 [(0, zr 4), (1, zr 96)] [] zSh (zcp (zcp (zcp (zcp (zcp (zup μ 4 0 (μ 96 0)) 5 97) 6 98) 7 99) 8 100) 9 101) _ _ _ from ?_)
  exact Ez.vret kr_4_copyWordsFrom_63 rfl (Nat.zero_le _) (Nat.zero_le _) rfl rfl
set_option maxHeartbeats 4000000 in
set_option maxRecDepth 100000 in
theorem xz_copyTaleFrom_10_102 {μ : zM} : Dz md_2_copyTaleFrom [zr 10, zr 102] zSh μ none zSh (zcp (zcp (zcp (zcp (zcp (zcp (zcp (zcp (zup (zup μ 10 0 (μ 102 0)) 10 1 (μ 102 1)) 11 103) 12 104) 13 105) 14 106) 15 107) 16 108) 17 109) 18 110) := by
  refine Dz.of (by decide) rfl rfl (show Ez md_2_copyTaleFrom 0 0 0 [(0, zr 10), (1, zr 102)] [] zSh μ none zSh (zcp (zcp (zcp (zcp (zcp (zcp (zcp (zcp (zup (zup μ 10 0 (μ 102 0)) 10 1 (μ 102 1)) 11 103) 12 104) 13 105) 14 106) 15 107) 16 108) 17 109) 18 110) from ?_)
  refine Az.blk kd_2_copyTaleFrom_0 (show Ez md_2_copyTaleFrom 0 0 24 [(0, zr 10), (1, zr 102)] [zr 11, zr 103] zSh (zup (zup μ 10 0 (μ 102 0)) 10 1 (μ 102 1)) _ _ _ from ?_)
  refine Az.cSN (mc := md_5_copyRow) (n := 2) (As := [zr 103, zr 11]) (rest := []) kr_2_copyTaleFrom_24 zw_280 ok_5_copyRow rfl rfl (xz_copyRow 103 11 20 rfl rfl (by decide)) rfl rfl (show Ez md_2_copyTaleFrom 0 0 27 [(0, zr 10), (1, zr 102)] [] zSh (zcp (zup (zup μ 10 0 (μ 102 0)) 10 1 (μ 102 1)) 11 103) _ _ _ from ?_)
  refine Az.blk kd_2_copyTaleFrom_27 (show Ez md_2_copyTaleFrom 0 0 35 [(0, zr 10), (1, zr 102)] [zr 12, zr 104] zSh (zcp (zup (zup μ 10 0 (μ 102 0)) 10 1 (μ 102 1)) 11 103) _ _ _ from ?_)
  refine Az.cSN (mc := md_5_copyRow) (n := 2) (As := [zr 104, zr 12]) (rest := []) kr_2_copyTaleFrom_35 zw_280 ok_5_copyRow rfl rfl (xz_copyRow 104 12 20 rfl rfl (by decide)) rfl rfl (show Ez md_2_copyTaleFrom 0 0 38 [(0, zr 10), (1, zr 102)] [] zSh (zcp (zcp (zup (zup μ 10 0 (μ 102 0)) 10 1 (μ 102 1)) 11 103) 12 104) _ _ _ from ?_)
  refine Az.blk kd_2_copyTaleFrom_38 (show Ez md_2_copyTaleFrom 0 0 46 [(0, zr 10), (1, zr 102)] [zr 13, zr 105] zSh (zcp (zcp (zup (zup μ 10 0 (μ 102 0)) 10 1 (μ 102 1)) 11 103) 12 104) _ _ _ from ?_)
  refine Az.cSN (mc := md_5_copyRow) (n := 2) (As := [zr 105, zr 13]) (rest := []) kr_2_copyTaleFrom_46 zw_280 ok_5_copyRow rfl rfl (xz_copyRow 105 13 20 rfl rfl (by decide)) rfl rfl (show Ez md_2_copyTaleFrom 0 0 49 [(0, zr 10), (1, zr 102)] [] zSh (zcp (zcp (zcp (zup (zup μ 10 0 (μ 102 0)) 10 1 (μ 102 1)) 11 103) 12 104) 13 105) _ _ _ from ?_)
  refine Az.blk kd_2_copyTaleFrom_49 (show Ez md_2_copyTaleFrom 0 0 57 [(0, zr 10), (1, zr 102)] [zr 14, zr 106] zSh (zcp (zcp (zcp (zup (zup μ 10 0 (μ 102 0)) 10 1 (μ 102 1)) 11 103) 12 104) 13 105) _ _ _ from ?_)
  refine Az.cSN (mc := md_5_copyRow) (n := 2) (As := [zr 106, zr 14]) (rest := []) kr_2_copyTaleFrom_57 zw_280 ok_5_copyRow rfl rfl (xz_copyRow 106 14 60 rfl rfl (by decide)) rfl rfl (show Ez md_2_copyTaleFrom 0 0 60 [(0, zr 10), (1, zr 102)] [] zSh (zcp (zcp (zcp (zcp (zup (zup μ 10 0 (μ 102 0)) 10 1 (μ 102 1)) 11 103) 12 104) 13 105) 14 106) _ _ _ from ?_)
  refine Az.blk kd_2_copyTaleFrom_60 (show Ez md_2_copyTaleFrom 0 0 68 [(0, zr 10), (1, zr 102)] [zr 15, zr 107] zSh (zcp (zcp (zcp (zcp (zup (zup μ 10 0 (μ 102 0)) 10 1 (μ 102 1)) 11 103) 12 104) 13 105) 14 106) _ _ _ from ?_)
  refine Az.cSN (mc := md_5_copyRow) (n := 2) (As := [zr 107, zr 15]) (rest := []) kr_2_copyTaleFrom_68 zw_280 ok_5_copyRow rfl rfl (xz_copyRow 107 15 20 rfl rfl (by decide)) rfl rfl (show Ez md_2_copyTaleFrom 0 0 71 [(0, zr 10), (1, zr 102)] [] zSh (zcp (zcp (zcp (zcp (zcp (zup (zup μ 10 0 (μ 102 0)) 10 1 (μ 102 1)) 11 103) 12 104) 13 105) 14 106) 15 107) _ _ _ from ?_)
  refine Az.blk kd_2_copyTaleFrom_71 (show Ez md_2_copyTaleFrom 0 0 79 [(0, zr 10), (1, zr 102)] [zr 16, zr 108] zSh (zcp (zcp (zcp (zcp (zcp (zup (zup μ 10 0 (μ 102 0)) 10 1 (μ 102 1)) 11 103) 12 104) 13 105) 14 106) 15 107) _ _ _ from ?_)
  refine Az.cSN (mc := md_5_copyRow) (n := 2) (As := [zr 108, zr 16]) (rest := []) kr_2_copyTaleFrom_79 zw_280 ok_5_copyRow rfl rfl (xz_copyRow 108 16 20 rfl rfl (by decide)) rfl rfl (show Ez md_2_copyTaleFrom 0 0 82 [(0, zr 10), (1, zr 102)] [] zSh (zcp (zcp (zcp (zcp (zcp (zcp (zup (zup μ 10 0 (μ 102 0)) 10 1 (μ 102 1)) 11 103) 12 104) 13 105) 14 106) 15 107) 16 108) _ _ _ from ?_)
  refine Az.blk kd_2_copyTaleFrom_82 (show Ez md_2_copyTaleFrom 0 0 90 [(0, zr 10), (1, zr 102)] [zr 17, zr 109] zSh (zcp (zcp (zcp (zcp (zcp (zcp (zup (zup μ 10 0 (μ 102 0)) 10 1 (μ 102 1)) 11 103) 12 104) 13 105) 14 106) 15 107) 16 108) _ _ _ from ?_)
  refine Az.cSN (mc := md_5_copyRow) (n := 2) (As := [zr 109, zr 17]) (rest := []) kr_2_copyTaleFrom_90 zw_280 ok_5_copyRow rfl rfl (xz_copyRow 109 17 20 rfl rfl (by decide)) rfl rfl (show Ez md_2_copyTaleFrom 0 0 93 [(0, zr 10), (1, zr 102)] [] zSh (zcp (zcp (zcp (zcp (zcp (zcp (zcp (zup (zup μ 10 0 (μ 102 0)) 10 1 (μ 102 1)) 11 103) 12 104) 13 105) 14 106) 15 107) 16 108) 17 109) _ _ _ from ?_)
  refine Az.blk kd_2_copyTaleFrom_93 (show Ez md_2_copyTaleFrom 0 0 101 [(0, zr 10), (1, zr 102)] [zr 18, zr 110] zSh (zcp (zcp (zcp (zcp (zcp (zcp (zcp (zup (zup μ 10 0 (μ 102 0)) 10 1 (μ 102 1)) 11 103) 12 104) 13 105) 14 106) 15 107) 16 108) 17 109) _ _ _ from ?_)
  refine Az.cSN (mc := md_5_copyRow) (n := 2) (As := [zr 110, zr 18]) (rest := []) kr_2_copyTaleFrom_101 zw_280 ok_5_copyRow rfl rfl (xz_copyRow 110 18 20 rfl rfl (by decide)) rfl rfl (show Ez md_2_copyTaleFrom 0 0 104 [(0, zr 10), (1, zr 102)] [] zSh (zcp (zcp (zcp (zcp (zcp (zcp (zcp (zcp (zup (zup μ 10 0 (μ 102 0)) 10 1 (μ 102 1)) 11 103) 12 104) 13 105) 14 106) 15 107) 16 108) 17 109) 18 110) _ _ _ from ?_)
  exact Ez.vret kr_2_copyTaleFrom_104 rfl (Nat.zero_le _) (Nat.zero_le _) rfl rfl
set_option maxRecDepth 100000 in
theorem zsm_3_95 (μ : zM) : zsm zSh (zup (zup (zcp (zcp (zcp (zcp (zcp (zcp (zcp (zcp (zcp (zcp (zup (zup (zcp (zcp (zcp (zcp (zcp (zup μ 4 0 (μ 96 0)) 5 97) 6 98) 7 99) 8 100) 9 101) 10 0 (μ 102 0)) 10 1 (μ 102 1)) 11 103) 12 104) 13 105) 14 106) 15 107) 16 108) 17 109) 18 110) 19 111) 20 112) 3 4 (μ 95 4)) 3 5 (μ 95 5)) (zcs μ 3 95) := by
  intro k sp hk
  by_cases e : k < 3 ∨ 21 ≤ k
  · have e1 : (zup (zup (zcp (zcp (zcp (zcp (zcp (zcp (zcp (zcp (zcp (zcp (zup (zup (zcp (zcp (zcp (zcp (zcp (zup μ 4 0 (μ 96 0)) 5 97) 6 98) 7 99) 8 100) 9 101) 10 0 (μ 102 0)) 10 1 (μ 102 1)) 11 103) 12 104) 13 105) 14 106) 15 107) 16 108) 17 109) 18 110) 19 111) 20 112) 3 4 (μ 95 4)) 3 5 (μ 95 5)) k = μ k := by
      rw [zup_ne (by omega), zup_ne (by omega), zcp_ne (by omega), zcp_ne (by omega), zcp_ne (by omega), zcp_ne (by omega), zcp_ne (by omega), zcp_ne (by omega), zcp_ne (by omega), zcp_ne (by omega), zcp_ne (by omega), zcp_ne (by omega), zup_ne (by omega), zup_ne (by omega), zcp_ne (by omega), zcp_ne (by omega), zcp_ne (by omega), zcp_ne (by omega), zcp_ne (by omega), zup_ne (by omega)]
    have e2 : zcs μ 3 95 k = μ k := zcs_ne (by omega)
    rcases sp with p | p
    · intro j _; rw [e1, e2]
    · show _ = _; rw [e1, e2]
  · obtain ⟨o, ho, rfl⟩ : ∃ o, o < 18 ∧ k = 3 + o := ⟨k - 3, by omega, by omega⟩
    match o, ho with
    | 0, _ =>
      obtain rfl : (Sum.inl (1, [some (some 4), some (some 10), some (some 19), some (some 20), none, none]) : zS) = sp := Option.some.inj hk
      intro j hj
      match j, hj with
      | 0, h => exact absurd h (by decide)
      | 1, h => exact absurd h (by decide)
      | 2, h => exact absurd h (by decide)
      | 3, h => exact absurd h (by decide)
      | 4, _ => exact (rfl : (zup (zup (zcp (zcp (zcp (zcp (zcp (zcp (zcp (zcp (zcp (zcp (zup (zup (zcp (zcp (zcp (zcp (zcp (zup μ 4 0 (μ 96 0)) 5 97) 6 98) 7 99) 8 100) 9 101) 10 0 (μ 102 0)) 10 1 (μ 102 1)) 11 103) 12 104) 13 105) 14 106) 15 107) 16 108) 17 109) 18 110) 19 111) 20 112) 3 4 (μ 95 4)) 3 5 (μ 95 5)) 3 4 = zcs μ 3 95 3 4)
      | 5, _ => exact (rfl : (zup (zup (zcp (zcp (zcp (zcp (zcp (zcp (zcp (zcp (zcp (zcp (zup (zup (zcp (zcp (zcp (zcp (zcp (zup μ 4 0 (μ 96 0)) 5 97) 6 98) 7 99) 8 100) 9 101) 10 0 (μ 102 0)) 10 1 (μ 102 1)) 11 103) 12 104) 13 105) 14 106) 15 107) 16 108) 17 109) 18 110) 19 111) 20 112) 3 4 (μ 95 4)) 3 5 (μ 95 5)) 3 5 = zcs μ 3 95 3 5)
      | j + 6, h => simp at h
    | 1, _ =>
      obtain rfl : (Sum.inl (4, [none, some (some 5), some (some 6), some (some 7), some (some 8), some (some 9)]) : zS) = sp := Option.some.inj hk
      intro j hj
      match j, hj with
      | 0, _ => exact (rfl : (zup (zup (zcp (zcp (zcp (zcp (zcp (zcp (zcp (zcp (zcp (zcp (zup (zup (zcp (zcp (zcp (zcp (zcp (zup μ 4 0 (μ 96 0)) 5 97) 6 98) 7 99) 8 100) 9 101) 10 0 (μ 102 0)) 10 1 (μ 102 1)) 11 103) 12 104) 13 105) 14 106) 15 107) 16 108) 17 109) 18 110) 19 111) 20 112) 3 4 (μ 95 4)) 3 5 (μ 95 5)) 4 0 = zcs μ 3 95 4 0)
      | 1, h => exact absurd h (by decide)
      | 2, h => exact absurd h (by decide)
      | 3, h => exact absurd h (by decide)
      | 4, h => exact absurd h (by decide)
      | 5, h => exact absurd h (by decide)
      | j + 6, h => simp at h
    | 2, _ =>
      obtain rfl : (Sum.inr (0, 24) : zS) = sp := Option.some.inj hk
      exact (rfl : (zup (zup (zcp (zcp (zcp (zcp (zcp (zcp (zcp (zcp (zcp (zcp (zup (zup (zcp (zcp (zcp (zcp (zcp (zup μ 4 0 (μ 96 0)) 5 97) 6 98) 7 99) 8 100) 9 101) 10 0 (μ 102 0)) 10 1 (μ 102 1)) 11 103) 12 104) 13 105) 14 106) 15 107) 16 108) 17 109) 18 110) 19 111) 20 112) 3 4 (μ 95 4)) 3 5 (μ 95 5)) 5 = zcs μ 3 95 5)
    | 3, _ =>
      obtain rfl : (Sum.inr (0, 24) : zS) = sp := Option.some.inj hk
      exact (rfl : (zup (zup (zcp (zcp (zcp (zcp (zcp (zcp (zcp (zcp (zcp (zcp (zup (zup (zcp (zcp (zcp (zcp (zcp (zup μ 4 0 (μ 96 0)) 5 97) 6 98) 7 99) 8 100) 9 101) 10 0 (μ 102 0)) 10 1 (μ 102 1)) 11 103) 12 104) 13 105) 14 106) 15 107) 16 108) 17 109) 18 110) 19 111) 20 112) 3 4 (μ 95 4)) 3 5 (μ 95 5)) 6 = zcs μ 3 95 6)
    | 4, _ =>
      obtain rfl : (Sum.inr (0, 24) : zS) = sp := Option.some.inj hk
      exact (rfl : (zup (zup (zcp (zcp (zcp (zcp (zcp (zcp (zcp (zcp (zcp (zcp (zup (zup (zcp (zcp (zcp (zcp (zcp (zup μ 4 0 (μ 96 0)) 5 97) 6 98) 7 99) 8 100) 9 101) 10 0 (μ 102 0)) 10 1 (μ 102 1)) 11 103) 12 104) 13 105) 14 106) 15 107) 16 108) 17 109) 18 110) 19 111) 20 112) 3 4 (μ 95 4)) 3 5 (μ 95 5)) 7 = zcs μ 3 95 7)
    | 5, _ =>
      obtain rfl : (Sum.inr (0, 192) : zS) = sp := Option.some.inj hk
      exact (rfl : (zup (zup (zcp (zcp (zcp (zcp (zcp (zcp (zcp (zcp (zcp (zcp (zup (zup (zcp (zcp (zcp (zcp (zcp (zup μ 4 0 (μ 96 0)) 5 97) 6 98) 7 99) 8 100) 9 101) 10 0 (μ 102 0)) 10 1 (μ 102 1)) 11 103) 12 104) 13 105) 14 106) 15 107) 16 108) 17 109) 18 110) 19 111) 20 112) 3 4 (μ 95 4)) 3 5 (μ 95 5)) 8 = zcs μ 3 95 8)
    | 6, _ =>
      obtain rfl : (Sum.inr (0, 18) : zS) = sp := Option.some.inj hk
      exact (rfl : (zup (zup (zcp (zcp (zcp (zcp (zcp (zcp (zcp (zcp (zcp (zcp (zup (zup (zcp (zcp (zcp (zcp (zcp (zup μ 4 0 (μ 96 0)) 5 97) 6 98) 7 99) 8 100) 9 101) 10 0 (μ 102 0)) 10 1 (μ 102 1)) 11 103) 12 104) 13 105) 14 106) 15 107) 16 108) 17 109) 18 110) 19 111) 20 112) 3 4 (μ 95 4)) 3 5 (μ 95 5)) 9 = zcs μ 3 95 9)
    | 7, _ =>
      obtain rfl : (Sum.inl (2, [none, none, some (some 11), some (some 12), some (some 13), some (some 14), some (some 15), some (some 16), some (some 17), some (some 18)]) : zS) = sp := Option.some.inj hk
      intro j hj
      match j, hj with
      | 0, _ => exact (rfl : (zup (zup (zcp (zcp (zcp (zcp (zcp (zcp (zcp (zcp (zcp (zcp (zup (zup (zcp (zcp (zcp (zcp (zcp (zup μ 4 0 (μ 96 0)) 5 97) 6 98) 7 99) 8 100) 9 101) 10 0 (μ 102 0)) 10 1 (μ 102 1)) 11 103) 12 104) 13 105) 14 106) 15 107) 16 108) 17 109) 18 110) 19 111) 20 112) 3 4 (μ 95 4)) 3 5 (μ 95 5)) 10 0 = zcs μ 3 95 10 0)
      | 1, _ => exact (rfl : (zup (zup (zcp (zcp (zcp (zcp (zcp (zcp (zcp (zcp (zcp (zcp (zup (zup (zcp (zcp (zcp (zcp (zcp (zup μ 4 0 (μ 96 0)) 5 97) 6 98) 7 99) 8 100) 9 101) 10 0 (μ 102 0)) 10 1 (μ 102 1)) 11 103) 12 104) 13 105) 14 106) 15 107) 16 108) 17 109) 18 110) 19 111) 20 112) 3 4 (μ 95 4)) 3 5 (μ 95 5)) 10 1 = zcs μ 3 95 10 1)
      | 2, h => exact absurd h (by decide)
      | 3, h => exact absurd h (by decide)
      | 4, h => exact absurd h (by decide)
      | 5, h => exact absurd h (by decide)
      | 6, h => exact absurd h (by decide)
      | 7, h => exact absurd h (by decide)
      | 8, h => exact absurd h (by decide)
      | 9, h => exact absurd h (by decide)
      | j + 10, h => simp at h
    | 8, _ =>
      obtain rfl : (Sum.inr (0, 20) : zS) = sp := Option.some.inj hk
      exact (rfl : (zup (zup (zcp (zcp (zcp (zcp (zcp (zcp (zcp (zcp (zcp (zcp (zup (zup (zcp (zcp (zcp (zcp (zcp (zup μ 4 0 (μ 96 0)) 5 97) 6 98) 7 99) 8 100) 9 101) 10 0 (μ 102 0)) 10 1 (μ 102 1)) 11 103) 12 104) 13 105) 14 106) 15 107) 16 108) 17 109) 18 110) 19 111) 20 112) 3 4 (μ 95 4)) 3 5 (μ 95 5)) 11 = zcs μ 3 95 11)
    | 9, _ =>
      obtain rfl : (Sum.inr (0, 20) : zS) = sp := Option.some.inj hk
      exact (rfl : (zup (zup (zcp (zcp (zcp (zcp (zcp (zcp (zcp (zcp (zcp (zcp (zup (zup (zcp (zcp (zcp (zcp (zcp (zup μ 4 0 (μ 96 0)) 5 97) 6 98) 7 99) 8 100) 9 101) 10 0 (μ 102 0)) 10 1 (μ 102 1)) 11 103) 12 104) 13 105) 14 106) 15 107) 16 108) 17 109) 18 110) 19 111) 20 112) 3 4 (μ 95 4)) 3 5 (μ 95 5)) 12 = zcs μ 3 95 12)
    | 10, _ =>
      obtain rfl : (Sum.inr (0, 20) : zS) = sp := Option.some.inj hk
      exact (rfl : (zup (zup (zcp (zcp (zcp (zcp (zcp (zcp (zcp (zcp (zcp (zcp (zup (zup (zcp (zcp (zcp (zcp (zcp (zup μ 4 0 (μ 96 0)) 5 97) 6 98) 7 99) 8 100) 9 101) 10 0 (μ 102 0)) 10 1 (μ 102 1)) 11 103) 12 104) 13 105) 14 106) 15 107) 16 108) 17 109) 18 110) 19 111) 20 112) 3 4 (μ 95 4)) 3 5 (μ 95 5)) 13 = zcs μ 3 95 13)
    | 11, _ =>
      obtain rfl : (Sum.inr (0, 60) : zS) = sp := Option.some.inj hk
      exact (rfl : (zup (zup (zcp (zcp (zcp (zcp (zcp (zcp (zcp (zcp (zcp (zcp (zup (zup (zcp (zcp (zcp (zcp (zcp (zup μ 4 0 (μ 96 0)) 5 97) 6 98) 7 99) 8 100) 9 101) 10 0 (μ 102 0)) 10 1 (μ 102 1)) 11 103) 12 104) 13 105) 14 106) 15 107) 16 108) 17 109) 18 110) 19 111) 20 112) 3 4 (μ 95 4)) 3 5 (μ 95 5)) 14 = zcs μ 3 95 14)
    | 12, _ =>
      obtain rfl : (Sum.inr (0, 20) : zS) = sp := Option.some.inj hk
      exact (rfl : (zup (zup (zcp (zcp (zcp (zcp (zcp (zcp (zcp (zcp (zcp (zcp (zup (zup (zcp (zcp (zcp (zcp (zcp (zup μ 4 0 (μ 96 0)) 5 97) 6 98) 7 99) 8 100) 9 101) 10 0 (μ 102 0)) 10 1 (μ 102 1)) 11 103) 12 104) 13 105) 14 106) 15 107) 16 108) 17 109) 18 110) 19 111) 20 112) 3 4 (μ 95 4)) 3 5 (μ 95 5)) 15 = zcs μ 3 95 15)
    | 13, _ =>
      obtain rfl : (Sum.inr (0, 20) : zS) = sp := Option.some.inj hk
      exact (rfl : (zup (zup (zcp (zcp (zcp (zcp (zcp (zcp (zcp (zcp (zcp (zcp (zup (zup (zcp (zcp (zcp (zcp (zcp (zup μ 4 0 (μ 96 0)) 5 97) 6 98) 7 99) 8 100) 9 101) 10 0 (μ 102 0)) 10 1 (μ 102 1)) 11 103) 12 104) 13 105) 14 106) 15 107) 16 108) 17 109) 18 110) 19 111) 20 112) 3 4 (μ 95 4)) 3 5 (μ 95 5)) 16 = zcs μ 3 95 16)
    | 14, _ =>
      obtain rfl : (Sum.inr (0, 20) : zS) = sp := Option.some.inj hk
      exact (rfl : (zup (zup (zcp (zcp (zcp (zcp (zcp (zcp (zcp (zcp (zcp (zcp (zup (zup (zcp (zcp (zcp (zcp (zcp (zup μ 4 0 (μ 96 0)) 5 97) 6 98) 7 99) 8 100) 9 101) 10 0 (μ 102 0)) 10 1 (μ 102 1)) 11 103) 12 104) 13 105) 14 106) 15 107) 16 108) 17 109) 18 110) 19 111) 20 112) 3 4 (μ 95 4)) 3 5 (μ 95 5)) 17 = zcs μ 3 95 17)
    | 15, _ =>
      obtain rfl : (Sum.inr (0, 20) : zS) = sp := Option.some.inj hk
      exact (rfl : (zup (zup (zcp (zcp (zcp (zcp (zcp (zcp (zcp (zcp (zcp (zcp (zup (zup (zcp (zcp (zcp (zcp (zcp (zup μ 4 0 (μ 96 0)) 5 97) 6 98) 7 99) 8 100) 9 101) 10 0 (μ 102 0)) 10 1 (μ 102 1)) 11 103) 12 104) 13 105) 14 106) 15 107) 16 108) 17 109) 18 110) 19 111) 20 112) 3 4 (μ 95 4)) 3 5 (μ 95 5)) 18 = zcs μ 3 95 18)
    | 16, _ =>
      obtain rfl : (Sum.inr (0, 10) : zS) = sp := Option.some.inj hk
      exact (rfl : (zup (zup (zcp (zcp (zcp (zcp (zcp (zcp (zcp (zcp (zcp (zcp (zup (zup (zcp (zcp (zcp (zcp (zcp (zup μ 4 0 (μ 96 0)) 5 97) 6 98) 7 99) 8 100) 9 101) 10 0 (μ 102 0)) 10 1 (μ 102 1)) 11 103) 12 104) 13 105) 14 106) 15 107) 16 108) 17 109) 18 110) 19 111) 20 112) 3 4 (μ 95 4)) 3 5 (μ 95 5)) 19 = zcs μ 3 95 19)
    | 17, _ =>
      obtain rfl : (Sum.inr (0, 10) : zS) = sp := Option.some.inj hk
      exact (rfl : (zup (zup (zcp (zcp (zcp (zcp (zcp (zcp (zcp (zcp (zcp (zcp (zup (zup (zcp (zcp (zcp (zcp (zcp (zup μ 4 0 (μ 96 0)) 5 97) 6 98) 7 99) 8 100) 9 101) 10 0 (μ 102 0)) 10 1 (μ 102 1)) 11 103) 12 104) 13 105) 14 106) 15 107) 16 108) 17 109) 18 110) 19 111) 20 112) 3 4 (μ 95 4)) 3 5 (μ 95 5)) 20 = zcs μ 3 95 20)
    | o + 18, h => omega
set_option maxHeartbeats 4000000 in
set_option maxRecDepth 100000 in
theorem xz_copyFrom_3_95 {μ : zM} : Dz md_1_copyFrom [zr 3, zr 95] zSh μ none zSh (zcs μ 3 95) := by
  refine Dz.of (by decide) rfl rfl (show Ez md_1_copyFrom 0 0 0 [(0, zr 3), (1, zr 95)] [] zSh μ none zSh (zcs μ 3 95) from ?_)
  refine Az.blk kd_1_copyFrom_0 (show Ez md_1_copyFrom 0 0 8 [(0, zr 3), (1, zr 95)] [zr 96, zr 4] zSh μ _ _ _ from ?_)
  refine Az.cVN (mc := md_4_copyWordsFrom) (k := 4) (n := 1) (As := [zr 96]) (rest := []) kr_1_copyFrom_8 zw_263 ok_4_copyWordsFrom rfl rfl rfl trivial (xz_copyWordsFrom_4_96) rfl rfl (show Ez md_1_copyFrom 0 0 11 [(0, zr 3), (1, zr 95)] [] zSh (zcp (zcp (zcp (zcp (zcp (zup μ 4 0 (μ 96 0)) 5 97) 6 98) 7 99) 8 100) 9 101) _ _ _ from ?_)
  refine Az.blk kd_1_copyFrom_11 (show Ez md_1_copyFrom 0 0 19 [(0, zr 3), (1, zr 95)] [zr 102, zr 10] zSh (zcp (zcp (zcp (zcp (zcp (zup μ 4 0 (μ 96 0)) 5 97) 6 98) 7 99) 8 100) 9 101) _ _ _ from ?_)
  refine Az.cVN (mc := md_2_copyTaleFrom) (k := 10) (n := 1) (As := [zr 102]) (rest := []) kr_1_copyFrom_19 zw_276 ok_2_copyTaleFrom rfl rfl rfl trivial (xz_copyTaleFrom_10_102) rfl rfl (show Ez md_1_copyFrom 0 0 22 [(0, zr 3), (1, zr 95)] [] zSh (zcp (zcp (zcp (zcp (zcp (zcp (zcp (zcp (zup (zup (zcp (zcp (zcp (zcp (zcp (zup μ 4 0 (μ 96 0)) 5 97) 6 98) 7 99) 8 100) 9 101) 10 0 (μ 102 0)) 10 1 (μ 102 1)) 11 103) 12 104) 13 105) 14 106) 15 107) 16 108) 17 109) 18 110) _ _ _ from ?_)
  refine Az.blk kd_1_copyFrom_22 (show Ez md_1_copyFrom 0 0 30 [(0, zr 3), (1, zr 95)] [zr 19, zr 111] zSh (zcp (zcp (zcp (zcp (zcp (zcp (zcp (zcp (zup (zup (zcp (zcp (zcp (zcp (zcp (zup μ 4 0 (μ 96 0)) 5 97) 6 98) 7 99) 8 100) 9 101) 10 0 (μ 102 0)) 10 1 (μ 102 1)) 11 103) 12 104) 13 105) 14 106) 15 107) 16 108) 17 109) 18 110) _ _ _ from ?_)
  refine Az.cSN (mc := md_5_copyRow) (n := 2) (As := [zr 111, zr 19]) (rest := []) kr_1_copyFrom_30 zw_281 ok_5_copyRow rfl rfl (xz_copyRow 111 19 10 rfl rfl (by decide)) rfl rfl (show Ez md_1_copyFrom 0 0 33 [(0, zr 3), (1, zr 95)] [] zSh (zcp (zcp (zcp (zcp (zcp (zcp (zcp (zcp (zcp (zup (zup (zcp (zcp (zcp (zcp (zcp (zup μ 4 0 (μ 96 0)) 5 97) 6 98) 7 99) 8 100) 9 101) 10 0 (μ 102 0)) 10 1 (μ 102 1)) 11 103) 12 104) 13 105) 14 106) 15 107) 16 108) 17 109) 18 110) 19 111) _ _ _ from ?_)
  refine Az.blk kd_1_copyFrom_33 (show Ez md_1_copyFrom 0 0 41 [(0, zr 3), (1, zr 95)] [zr 20, zr 112] zSh (zcp (zcp (zcp (zcp (zcp (zcp (zcp (zcp (zcp (zup (zup (zcp (zcp (zcp (zcp (zcp (zup μ 4 0 (μ 96 0)) 5 97) 6 98) 7 99) 8 100) 9 101) 10 0 (μ 102 0)) 10 1 (μ 102 1)) 11 103) 12 104) 13 105) 14 106) 15 107) 16 108) 17 109) 18 110) 19 111) _ _ _ from ?_)
  refine Az.cSN (mc := md_5_copyRow) (n := 2) (As := [zr 112, zr 20]) (rest := []) kr_1_copyFrom_41 zw_281 ok_5_copyRow rfl rfl (xz_copyRow 112 20 10 rfl rfl (by decide)) rfl rfl (show Ez md_1_copyFrom 0 0 44 [(0, zr 3), (1, zr 95)] [] zSh (zcp (zcp (zcp (zcp (zcp (zcp (zcp (zcp (zcp (zcp (zup (zup (zcp (zcp (zcp (zcp (zcp (zup μ 4 0 (μ 96 0)) 5 97) 6 98) 7 99) 8 100) 9 101) 10 0 (μ 102 0)) 10 1 (μ 102 1)) 11 103) 12 104) 13 105) 14 106) 15 107) 16 108) 17 109) 18 110) 19 111) 20 112) _ _ _ from ?_)
  refine Az.blk kd_1_copyFrom_44 (show Ez md_1_copyFrom 0 0 60 [(0, zr 3), (1, zr 95)] [] zSh (zup (zup (zcp (zcp (zcp (zcp (zcp (zcp (zcp (zcp (zcp (zcp (zup (zup (zcp (zcp (zcp (zcp (zcp (zup μ 4 0 (μ 96 0)) 5 97) 6 98) 7 99) 8 100) 9 101) 10 0 (μ 102 0)) 10 1 (μ 102 1)) 11 103) 12 104) 13 105) 14 106) 15 107) 16 108) 17 109) 18 110) 19 111) 20 112) 3 4 (μ 95 4)) 3 5 (μ 95 5)) _ _ _ from ?_)
  refine Az.mem (μ' := zcs μ 3 95) (fun G k sp H hk h => by rw [← zsm_cell (zsm_3_95 μ) hk]; exact h) ?_
  exact Ez.vret kr_1_copyFrom_60 rfl (Nat.zero_le _) (Nat.zero_le _) rfl rfl
set_option maxHeartbeats 4000000 in
set_option maxRecDepth 100000 in
theorem xz_copyWordsFrom_42_4 {μ : zM} : Dz md_4_copyWordsFrom [zr 42, zr 4] zSh μ none zSh (zcp (zcp (zcp (zcp (zcp (zup μ 42 0 (μ 4 0)) 43 5) 44 6) 45 7) 46 8) 47 9) := by
  refine Dz.of (by decide) rfl rfl (show Ez md_4_copyWordsFrom 0 0 0 [(0, zr 42), (1, zr 4)] [] zSh μ none zSh (zcp (zcp (zcp (zcp (zcp (zup μ 42 0 (μ 4 0)) 43 5) 44 6) 45 7) 46 8) 47 9) from ?_)
  refine Az.blk kd_4_copyWordsFrom_0 (show Ez md_4_copyWordsFrom 0 0 16 [(0, zr 42), (1, zr 4)] [zr 43, zr 5] zSh (zup μ 42 0 (μ 4 0)) _ _ _ from ?_)
  refine Az.cSN (mc := md_5_copyRow) (n := 2) (As := [zr 5, zr 43]) (rest := []) kr_4_copyWordsFrom_16 zw_267 ok_5_copyRow rfl rfl (xz_copyRow 5 43 24 rfl rfl (by decide)) rfl rfl (show Ez md_4_copyWordsFrom 0 0 19 [(0, zr 42), (1, zr 4)] [] zSh (zcp (zup μ 42 0 (μ 4 0)) 43 5) _ _ _ from ?_)
  refine Az.blk kd_4_copyWordsFrom_19 (show Ez md_4_copyWordsFrom 0 0 27 [(0, zr 42), (1, zr 4)] [zr 44, zr 6] zSh (zcp (zup μ 42 0 (μ 4 0)) 43 5) _ _ _ from ?_)
  refine Az.cSN (mc := md_5_copyRow) (n := 2) (As := [zr 6, zr 44]) (rest := []) kr_4_copyWordsFrom_27 zw_267 ok_5_copyRow rfl rfl (xz_copyRow 6 44 24 rfl rfl (by decide)) rfl rfl (show Ez md_4_copyWordsFrom 0 0 30 [(0, zr 42), (1, zr 4)] [] zSh (zcp (zcp (zup μ 42 0 (μ 4 0)) 43 5) 44 6) _ _ _ from ?_)
  refine Az.blk kd_4_copyWordsFrom_30 (show Ez md_4_copyWordsFrom 0 0 38 [(0, zr 42), (1, zr 4)] [zr 45, zr 7] zSh (zcp (zcp (zup μ 42 0 (μ 4 0)) 43 5) 44 6) _ _ _ from ?_)
  refine Az.cSN (mc := md_5_copyRow) (n := 2) (As := [zr 7, zr 45]) (rest := []) kr_4_copyWordsFrom_38 zw_267 ok_5_copyRow rfl rfl (xz_copyRow 7 45 24 rfl rfl (by decide)) rfl rfl (show Ez md_4_copyWordsFrom 0 0 41 [(0, zr 42), (1, zr 4)] [] zSh (zcp (zcp (zcp (zup μ 42 0 (μ 4 0)) 43 5) 44 6) 45 7) _ _ _ from ?_)
  refine Az.blk kd_4_copyWordsFrom_41 (show Ez md_4_copyWordsFrom 0 0 49 [(0, zr 42), (1, zr 4)] [zr 46, zr 8] zSh (zcp (zcp (zcp (zup μ 42 0 (μ 4 0)) 43 5) 44 6) 45 7) _ _ _ from ?_)
  refine Az.cSN (mc := md_5_copyRow) (n := 2) (As := [zr 8, zr 46]) (rest := []) kr_4_copyWordsFrom_49 zw_267 ok_5_copyRow rfl rfl (xz_copyRow 8 46 192 rfl rfl (by decide)) rfl rfl (show Ez md_4_copyWordsFrom 0 0 52 [(0, zr 42), (1, zr 4)] [] zSh (zcp (zcp (zcp (zcp (zup μ 42 0 (μ 4 0)) 43 5) 44 6) 45 7) 46 8) _ _ _ from ?_)
  refine Az.blk kd_4_copyWordsFrom_52 (show Ez md_4_copyWordsFrom 0 0 60 [(0, zr 42), (1, zr 4)] [zr 47, zr 9] zSh (zcp (zcp (zcp (zcp (zup μ 42 0 (μ 4 0)) 43 5) 44 6) 45 7) 46 8) _ _ _ from ?_)
  refine Az.cSN (mc := md_5_copyRow) (n := 2) (As := [zr 9, zr 47]) (rest := []) kr_4_copyWordsFrom_60 zw_267 ok_5_copyRow rfl rfl (xz_copyRow 9 47 18 rfl rfl (by decide)) rfl rfl (show Ez md_4_copyWordsFrom 0 0 63 [(0, zr 42), (1, zr 4)] [] zSh (zcp (zcp (zcp (zcp (zcp (zup μ 42 0 (μ 4 0)) 43 5) 44 6) 45 7) 46 8) 47 9) _ _ _ from ?_)
  exact Ez.vret kr_4_copyWordsFrom_63 rfl (Nat.zero_le _) (Nat.zero_le _) rfl rfl
set_option maxHeartbeats 4000000 in
set_option maxRecDepth 100000 in
theorem xz_copyTaleFrom_48_10 {μ : zM} : Dz md_2_copyTaleFrom [zr 48, zr 10] zSh μ none zSh (zcp (zcp (zcp (zcp (zcp (zcp (zcp (zcp (zup (zup μ 48 0 (μ 10 0)) 48 1 (μ 10 1)) 49 11) 50 12) 51 13) 52 14) 53 15) 54 16) 55 17) 56 18) := by
  refine Dz.of (by decide) rfl rfl (show Ez md_2_copyTaleFrom 0 0 0 [(0, zr 48), (1, zr 10)] [] zSh μ none zSh (zcp (zcp (zcp (zcp (zcp (zcp (zcp (zcp (zup (zup μ 48 0 (μ 10 0)) 48 1 (μ 10 1)) 49 11) 50 12) 51 13) 52 14) 53 15) 54 16) 55 17) 56 18) from ?_)
  refine Az.blk kd_2_copyTaleFrom_0 (show Ez md_2_copyTaleFrom 0 0 24 [(0, zr 48), (1, zr 10)] [zr 49, zr 11] zSh (zup (zup μ 48 0 (μ 10 0)) 48 1 (μ 10 1)) _ _ _ from ?_)
  refine Az.cSN (mc := md_5_copyRow) (n := 2) (As := [zr 11, zr 49]) (rest := []) kr_2_copyTaleFrom_24 zw_280 ok_5_copyRow rfl rfl (xz_copyRow 11 49 20 rfl rfl (by decide)) rfl rfl (show Ez md_2_copyTaleFrom 0 0 27 [(0, zr 48), (1, zr 10)] [] zSh (zcp (zup (zup μ 48 0 (μ 10 0)) 48 1 (μ 10 1)) 49 11) _ _ _ from ?_)
  refine Az.blk kd_2_copyTaleFrom_27 (show Ez md_2_copyTaleFrom 0 0 35 [(0, zr 48), (1, zr 10)] [zr 50, zr 12] zSh (zcp (zup (zup μ 48 0 (μ 10 0)) 48 1 (μ 10 1)) 49 11) _ _ _ from ?_)
  refine Az.cSN (mc := md_5_copyRow) (n := 2) (As := [zr 12, zr 50]) (rest := []) kr_2_copyTaleFrom_35 zw_280 ok_5_copyRow rfl rfl (xz_copyRow 12 50 20 rfl rfl (by decide)) rfl rfl (show Ez md_2_copyTaleFrom 0 0 38 [(0, zr 48), (1, zr 10)] [] zSh (zcp (zcp (zup (zup μ 48 0 (μ 10 0)) 48 1 (μ 10 1)) 49 11) 50 12) _ _ _ from ?_)
  refine Az.blk kd_2_copyTaleFrom_38 (show Ez md_2_copyTaleFrom 0 0 46 [(0, zr 48), (1, zr 10)] [zr 51, zr 13] zSh (zcp (zcp (zup (zup μ 48 0 (μ 10 0)) 48 1 (μ 10 1)) 49 11) 50 12) _ _ _ from ?_)
  refine Az.cSN (mc := md_5_copyRow) (n := 2) (As := [zr 13, zr 51]) (rest := []) kr_2_copyTaleFrom_46 zw_280 ok_5_copyRow rfl rfl (xz_copyRow 13 51 20 rfl rfl (by decide)) rfl rfl (show Ez md_2_copyTaleFrom 0 0 49 [(0, zr 48), (1, zr 10)] [] zSh (zcp (zcp (zcp (zup (zup μ 48 0 (μ 10 0)) 48 1 (μ 10 1)) 49 11) 50 12) 51 13) _ _ _ from ?_)
  refine Az.blk kd_2_copyTaleFrom_49 (show Ez md_2_copyTaleFrom 0 0 57 [(0, zr 48), (1, zr 10)] [zr 52, zr 14] zSh (zcp (zcp (zcp (zup (zup μ 48 0 (μ 10 0)) 48 1 (μ 10 1)) 49 11) 50 12) 51 13) _ _ _ from ?_)
  refine Az.cSN (mc := md_5_copyRow) (n := 2) (As := [zr 14, zr 52]) (rest := []) kr_2_copyTaleFrom_57 zw_280 ok_5_copyRow rfl rfl (xz_copyRow 14 52 60 rfl rfl (by decide)) rfl rfl (show Ez md_2_copyTaleFrom 0 0 60 [(0, zr 48), (1, zr 10)] [] zSh (zcp (zcp (zcp (zcp (zup (zup μ 48 0 (μ 10 0)) 48 1 (μ 10 1)) 49 11) 50 12) 51 13) 52 14) _ _ _ from ?_)
  refine Az.blk kd_2_copyTaleFrom_60 (show Ez md_2_copyTaleFrom 0 0 68 [(0, zr 48), (1, zr 10)] [zr 53, zr 15] zSh (zcp (zcp (zcp (zcp (zup (zup μ 48 0 (μ 10 0)) 48 1 (μ 10 1)) 49 11) 50 12) 51 13) 52 14) _ _ _ from ?_)
  refine Az.cSN (mc := md_5_copyRow) (n := 2) (As := [zr 15, zr 53]) (rest := []) kr_2_copyTaleFrom_68 zw_280 ok_5_copyRow rfl rfl (xz_copyRow 15 53 20 rfl rfl (by decide)) rfl rfl (show Ez md_2_copyTaleFrom 0 0 71 [(0, zr 48), (1, zr 10)] [] zSh (zcp (zcp (zcp (zcp (zcp (zup (zup μ 48 0 (μ 10 0)) 48 1 (μ 10 1)) 49 11) 50 12) 51 13) 52 14) 53 15) _ _ _ from ?_)
  refine Az.blk kd_2_copyTaleFrom_71 (show Ez md_2_copyTaleFrom 0 0 79 [(0, zr 48), (1, zr 10)] [zr 54, zr 16] zSh (zcp (zcp (zcp (zcp (zcp (zup (zup μ 48 0 (μ 10 0)) 48 1 (μ 10 1)) 49 11) 50 12) 51 13) 52 14) 53 15) _ _ _ from ?_)
  refine Az.cSN (mc := md_5_copyRow) (n := 2) (As := [zr 16, zr 54]) (rest := []) kr_2_copyTaleFrom_79 zw_280 ok_5_copyRow rfl rfl (xz_copyRow 16 54 20 rfl rfl (by decide)) rfl rfl (show Ez md_2_copyTaleFrom 0 0 82 [(0, zr 48), (1, zr 10)] [] zSh (zcp (zcp (zcp (zcp (zcp (zcp (zup (zup μ 48 0 (μ 10 0)) 48 1 (μ 10 1)) 49 11) 50 12) 51 13) 52 14) 53 15) 54 16) _ _ _ from ?_)
  refine Az.blk kd_2_copyTaleFrom_82 (show Ez md_2_copyTaleFrom 0 0 90 [(0, zr 48), (1, zr 10)] [zr 55, zr 17] zSh (zcp (zcp (zcp (zcp (zcp (zcp (zup (zup μ 48 0 (μ 10 0)) 48 1 (μ 10 1)) 49 11) 50 12) 51 13) 52 14) 53 15) 54 16) _ _ _ from ?_)
  refine Az.cSN (mc := md_5_copyRow) (n := 2) (As := [zr 17, zr 55]) (rest := []) kr_2_copyTaleFrom_90 zw_280 ok_5_copyRow rfl rfl (xz_copyRow 17 55 20 rfl rfl (by decide)) rfl rfl (show Ez md_2_copyTaleFrom 0 0 93 [(0, zr 48), (1, zr 10)] [] zSh (zcp (zcp (zcp (zcp (zcp (zcp (zcp (zup (zup μ 48 0 (μ 10 0)) 48 1 (μ 10 1)) 49 11) 50 12) 51 13) 52 14) 53 15) 54 16) 55 17) _ _ _ from ?_)
  refine Az.blk kd_2_copyTaleFrom_93 (show Ez md_2_copyTaleFrom 0 0 101 [(0, zr 48), (1, zr 10)] [zr 56, zr 18] zSh (zcp (zcp (zcp (zcp (zcp (zcp (zcp (zup (zup μ 48 0 (μ 10 0)) 48 1 (μ 10 1)) 49 11) 50 12) 51 13) 52 14) 53 15) 54 16) 55 17) _ _ _ from ?_)
  refine Az.cSN (mc := md_5_copyRow) (n := 2) (As := [zr 18, zr 56]) (rest := []) kr_2_copyTaleFrom_101 zw_280 ok_5_copyRow rfl rfl (xz_copyRow 18 56 20 rfl rfl (by decide)) rfl rfl (show Ez md_2_copyTaleFrom 0 0 104 [(0, zr 48), (1, zr 10)] [] zSh (zcp (zcp (zcp (zcp (zcp (zcp (zcp (zcp (zup (zup μ 48 0 (μ 10 0)) 48 1 (μ 10 1)) 49 11) 50 12) 51 13) 52 14) 53 15) 54 16) 55 17) 56 18) _ _ _ from ?_)
  exact Ez.vret kr_2_copyTaleFrom_104 rfl (Nat.zero_le _) (Nat.zero_le _) rfl rfl
set_option maxRecDepth 100000 in
theorem zsm_41_3 (μ : zM) : zsm zSh (zup (zup (zcp (zcp (zcp (zcp (zcp (zcp (zcp (zcp (zcp (zcp (zup (zup (zcp (zcp (zcp (zcp (zcp (zup μ 42 0 (μ 4 0)) 43 5) 44 6) 45 7) 46 8) 47 9) 48 0 (μ 10 0)) 48 1 (μ 10 1)) 49 11) 50 12) 51 13) 52 14) 53 15) 54 16) 55 17) 56 18) 57 19) 58 20) 41 4 (μ 3 4)) 41 5 (μ 3 5)) (zcs μ 41 3) := by
  intro k sp hk
  by_cases e : k < 41 ∨ 59 ≤ k
  · have e1 : (zup (zup (zcp (zcp (zcp (zcp (zcp (zcp (zcp (zcp (zcp (zcp (zup (zup (zcp (zcp (zcp (zcp (zcp (zup μ 42 0 (μ 4 0)) 43 5) 44 6) 45 7) 46 8) 47 9) 48 0 (μ 10 0)) 48 1 (μ 10 1)) 49 11) 50 12) 51 13) 52 14) 53 15) 54 16) 55 17) 56 18) 57 19) 58 20) 41 4 (μ 3 4)) 41 5 (μ 3 5)) k = μ k := by
      rw [zup_ne (by omega), zup_ne (by omega), zcp_ne (by omega), zcp_ne (by omega), zcp_ne (by omega), zcp_ne (by omega), zcp_ne (by omega), zcp_ne (by omega), zcp_ne (by omega), zcp_ne (by omega), zcp_ne (by omega), zcp_ne (by omega), zup_ne (by omega), zup_ne (by omega), zcp_ne (by omega), zcp_ne (by omega), zcp_ne (by omega), zcp_ne (by omega), zcp_ne (by omega), zup_ne (by omega)]
    have e2 : zcs μ 41 3 k = μ k := zcs_ne (by omega)
    rcases sp with p | p
    · intro j _; rw [e1, e2]
    · show _ = _; rw [e1, e2]
  · obtain ⟨o, ho, rfl⟩ : ∃ o, o < 18 ∧ k = 41 + o := ⟨k - 41, by omega, by omega⟩
    match o, ho with
    | 0, _ =>
      obtain rfl : (Sum.inl (1, [some (some 42), some (some 48), some (some 57), some (some 58), none, none]) : zS) = sp := Option.some.inj hk
      intro j hj
      match j, hj with
      | 0, h => exact absurd h (by decide)
      | 1, h => exact absurd h (by decide)
      | 2, h => exact absurd h (by decide)
      | 3, h => exact absurd h (by decide)
      | 4, _ => exact (rfl : (zup (zup (zcp (zcp (zcp (zcp (zcp (zcp (zcp (zcp (zcp (zcp (zup (zup (zcp (zcp (zcp (zcp (zcp (zup μ 42 0 (μ 4 0)) 43 5) 44 6) 45 7) 46 8) 47 9) 48 0 (μ 10 0)) 48 1 (μ 10 1)) 49 11) 50 12) 51 13) 52 14) 53 15) 54 16) 55 17) 56 18) 57 19) 58 20) 41 4 (μ 3 4)) 41 5 (μ 3 5)) 41 4 = zcs μ 41 3 41 4)
      | 5, _ => exact (rfl : (zup (zup (zcp (zcp (zcp (zcp (zcp (zcp (zcp (zcp (zcp (zcp (zup (zup (zcp (zcp (zcp (zcp (zcp (zup μ 42 0 (μ 4 0)) 43 5) 44 6) 45 7) 46 8) 47 9) 48 0 (μ 10 0)) 48 1 (μ 10 1)) 49 11) 50 12) 51 13) 52 14) 53 15) 54 16) 55 17) 56 18) 57 19) 58 20) 41 4 (μ 3 4)) 41 5 (μ 3 5)) 41 5 = zcs μ 41 3 41 5)
      | j + 6, h => simp at h
    | 1, _ =>
      obtain rfl : (Sum.inl (4, [none, some (some 43), some (some 44), some (some 45), some (some 46), some (some 47)]) : zS) = sp := Option.some.inj hk
      intro j hj
      match j, hj with
      | 0, _ => exact (rfl : (zup (zup (zcp (zcp (zcp (zcp (zcp (zcp (zcp (zcp (zcp (zcp (zup (zup (zcp (zcp (zcp (zcp (zcp (zup μ 42 0 (μ 4 0)) 43 5) 44 6) 45 7) 46 8) 47 9) 48 0 (μ 10 0)) 48 1 (μ 10 1)) 49 11) 50 12) 51 13) 52 14) 53 15) 54 16) 55 17) 56 18) 57 19) 58 20) 41 4 (μ 3 4)) 41 5 (μ 3 5)) 42 0 = zcs μ 41 3 42 0)
      | 1, h => exact absurd h (by decide)
      | 2, h => exact absurd h (by decide)
      | 3, h => exact absurd h (by decide)
      | 4, h => exact absurd h (by decide)
      | 5, h => exact absurd h (by decide)
      | j + 6, h => simp at h
    | 2, _ =>
      obtain rfl : (Sum.inr (0, 24) : zS) = sp := Option.some.inj hk
      exact (rfl : (zup (zup (zcp (zcp (zcp (zcp (zcp (zcp (zcp (zcp (zcp (zcp (zup (zup (zcp (zcp (zcp (zcp (zcp (zup μ 42 0 (μ 4 0)) 43 5) 44 6) 45 7) 46 8) 47 9) 48 0 (μ 10 0)) 48 1 (μ 10 1)) 49 11) 50 12) 51 13) 52 14) 53 15) 54 16) 55 17) 56 18) 57 19) 58 20) 41 4 (μ 3 4)) 41 5 (μ 3 5)) 43 = zcs μ 41 3 43)
    | 3, _ =>
      obtain rfl : (Sum.inr (0, 24) : zS) = sp := Option.some.inj hk
      exact (rfl : (zup (zup (zcp (zcp (zcp (zcp (zcp (zcp (zcp (zcp (zcp (zcp (zup (zup (zcp (zcp (zcp (zcp (zcp (zup μ 42 0 (μ 4 0)) 43 5) 44 6) 45 7) 46 8) 47 9) 48 0 (μ 10 0)) 48 1 (μ 10 1)) 49 11) 50 12) 51 13) 52 14) 53 15) 54 16) 55 17) 56 18) 57 19) 58 20) 41 4 (μ 3 4)) 41 5 (μ 3 5)) 44 = zcs μ 41 3 44)
    | 4, _ =>
      obtain rfl : (Sum.inr (0, 24) : zS) = sp := Option.some.inj hk
      exact (rfl : (zup (zup (zcp (zcp (zcp (zcp (zcp (zcp (zcp (zcp (zcp (zcp (zup (zup (zcp (zcp (zcp (zcp (zcp (zup μ 42 0 (μ 4 0)) 43 5) 44 6) 45 7) 46 8) 47 9) 48 0 (μ 10 0)) 48 1 (μ 10 1)) 49 11) 50 12) 51 13) 52 14) 53 15) 54 16) 55 17) 56 18) 57 19) 58 20) 41 4 (μ 3 4)) 41 5 (μ 3 5)) 45 = zcs μ 41 3 45)
    | 5, _ =>
      obtain rfl : (Sum.inr (0, 192) : zS) = sp := Option.some.inj hk
      exact (rfl : (zup (zup (zcp (zcp (zcp (zcp (zcp (zcp (zcp (zcp (zcp (zcp (zup (zup (zcp (zcp (zcp (zcp (zcp (zup μ 42 0 (μ 4 0)) 43 5) 44 6) 45 7) 46 8) 47 9) 48 0 (μ 10 0)) 48 1 (μ 10 1)) 49 11) 50 12) 51 13) 52 14) 53 15) 54 16) 55 17) 56 18) 57 19) 58 20) 41 4 (μ 3 4)) 41 5 (μ 3 5)) 46 = zcs μ 41 3 46)
    | 6, _ =>
      obtain rfl : (Sum.inr (0, 18) : zS) = sp := Option.some.inj hk
      exact (rfl : (zup (zup (zcp (zcp (zcp (zcp (zcp (zcp (zcp (zcp (zcp (zcp (zup (zup (zcp (zcp (zcp (zcp (zcp (zup μ 42 0 (μ 4 0)) 43 5) 44 6) 45 7) 46 8) 47 9) 48 0 (μ 10 0)) 48 1 (μ 10 1)) 49 11) 50 12) 51 13) 52 14) 53 15) 54 16) 55 17) 56 18) 57 19) 58 20) 41 4 (μ 3 4)) 41 5 (μ 3 5)) 47 = zcs μ 41 3 47)
    | 7, _ =>
      obtain rfl : (Sum.inl (2, [none, none, some (some 49), some (some 50), some (some 51), some (some 52), some (some 53), some (some 54), some (some 55), some (some 56)]) : zS) = sp := Option.some.inj hk
      intro j hj
      match j, hj with
      | 0, _ => exact (rfl : (zup (zup (zcp (zcp (zcp (zcp (zcp (zcp (zcp (zcp (zcp (zcp (zup (zup (zcp (zcp (zcp (zcp (zcp (zup μ 42 0 (μ 4 0)) 43 5) 44 6) 45 7) 46 8) 47 9) 48 0 (μ 10 0)) 48 1 (μ 10 1)) 49 11) 50 12) 51 13) 52 14) 53 15) 54 16) 55 17) 56 18) 57 19) 58 20) 41 4 (μ 3 4)) 41 5 (μ 3 5)) 48 0 = zcs μ 41 3 48 0)
      | 1, _ => exact (rfl : (zup (zup (zcp (zcp (zcp (zcp (zcp (zcp (zcp (zcp (zcp (zcp (zup (zup (zcp (zcp (zcp (zcp (zcp (zup μ 42 0 (μ 4 0)) 43 5) 44 6) 45 7) 46 8) 47 9) 48 0 (μ 10 0)) 48 1 (μ 10 1)) 49 11) 50 12) 51 13) 52 14) 53 15) 54 16) 55 17) 56 18) 57 19) 58 20) 41 4 (μ 3 4)) 41 5 (μ 3 5)) 48 1 = zcs μ 41 3 48 1)
      | 2, h => exact absurd h (by decide)
      | 3, h => exact absurd h (by decide)
      | 4, h => exact absurd h (by decide)
      | 5, h => exact absurd h (by decide)
      | 6, h => exact absurd h (by decide)
      | 7, h => exact absurd h (by decide)
      | 8, h => exact absurd h (by decide)
      | 9, h => exact absurd h (by decide)
      | j + 10, h => simp at h
    | 8, _ =>
      obtain rfl : (Sum.inr (0, 20) : zS) = sp := Option.some.inj hk
      exact (rfl : (zup (zup (zcp (zcp (zcp (zcp (zcp (zcp (zcp (zcp (zcp (zcp (zup (zup (zcp (zcp (zcp (zcp (zcp (zup μ 42 0 (μ 4 0)) 43 5) 44 6) 45 7) 46 8) 47 9) 48 0 (μ 10 0)) 48 1 (μ 10 1)) 49 11) 50 12) 51 13) 52 14) 53 15) 54 16) 55 17) 56 18) 57 19) 58 20) 41 4 (μ 3 4)) 41 5 (μ 3 5)) 49 = zcs μ 41 3 49)
    | 9, _ =>
      obtain rfl : (Sum.inr (0, 20) : zS) = sp := Option.some.inj hk
      exact (rfl : (zup (zup (zcp (zcp (zcp (zcp (zcp (zcp (zcp (zcp (zcp (zcp (zup (zup (zcp (zcp (zcp (zcp (zcp (zup μ 42 0 (μ 4 0)) 43 5) 44 6) 45 7) 46 8) 47 9) 48 0 (μ 10 0)) 48 1 (μ 10 1)) 49 11) 50 12) 51 13) 52 14) 53 15) 54 16) 55 17) 56 18) 57 19) 58 20) 41 4 (μ 3 4)) 41 5 (μ 3 5)) 50 = zcs μ 41 3 50)
    | 10, _ =>
      obtain rfl : (Sum.inr (0, 20) : zS) = sp := Option.some.inj hk
      exact (rfl : (zup (zup (zcp (zcp (zcp (zcp (zcp (zcp (zcp (zcp (zcp (zcp (zup (zup (zcp (zcp (zcp (zcp (zcp (zup μ 42 0 (μ 4 0)) 43 5) 44 6) 45 7) 46 8) 47 9) 48 0 (μ 10 0)) 48 1 (μ 10 1)) 49 11) 50 12) 51 13) 52 14) 53 15) 54 16) 55 17) 56 18) 57 19) 58 20) 41 4 (μ 3 4)) 41 5 (μ 3 5)) 51 = zcs μ 41 3 51)
    | 11, _ =>
      obtain rfl : (Sum.inr (0, 60) : zS) = sp := Option.some.inj hk
      exact (rfl : (zup (zup (zcp (zcp (zcp (zcp (zcp (zcp (zcp (zcp (zcp (zcp (zup (zup (zcp (zcp (zcp (zcp (zcp (zup μ 42 0 (μ 4 0)) 43 5) 44 6) 45 7) 46 8) 47 9) 48 0 (μ 10 0)) 48 1 (μ 10 1)) 49 11) 50 12) 51 13) 52 14) 53 15) 54 16) 55 17) 56 18) 57 19) 58 20) 41 4 (μ 3 4)) 41 5 (μ 3 5)) 52 = zcs μ 41 3 52)
    | 12, _ =>
      obtain rfl : (Sum.inr (0, 20) : zS) = sp := Option.some.inj hk
      exact (rfl : (zup (zup (zcp (zcp (zcp (zcp (zcp (zcp (zcp (zcp (zcp (zcp (zup (zup (zcp (zcp (zcp (zcp (zcp (zup μ 42 0 (μ 4 0)) 43 5) 44 6) 45 7) 46 8) 47 9) 48 0 (μ 10 0)) 48 1 (μ 10 1)) 49 11) 50 12) 51 13) 52 14) 53 15) 54 16) 55 17) 56 18) 57 19) 58 20) 41 4 (μ 3 4)) 41 5 (μ 3 5)) 53 = zcs μ 41 3 53)
    | 13, _ =>
      obtain rfl : (Sum.inr (0, 20) : zS) = sp := Option.some.inj hk
      exact (rfl : (zup (zup (zcp (zcp (zcp (zcp (zcp (zcp (zcp (zcp (zcp (zcp (zup (zup (zcp (zcp (zcp (zcp (zcp (zup μ 42 0 (μ 4 0)) 43 5) 44 6) 45 7) 46 8) 47 9) 48 0 (μ 10 0)) 48 1 (μ 10 1)) 49 11) 50 12) 51 13) 52 14) 53 15) 54 16) 55 17) 56 18) 57 19) 58 20) 41 4 (μ 3 4)) 41 5 (μ 3 5)) 54 = zcs μ 41 3 54)
    | 14, _ =>
      obtain rfl : (Sum.inr (0, 20) : zS) = sp := Option.some.inj hk
      exact (rfl : (zup (zup (zcp (zcp (zcp (zcp (zcp (zcp (zcp (zcp (zcp (zcp (zup (zup (zcp (zcp (zcp (zcp (zcp (zup μ 42 0 (μ 4 0)) 43 5) 44 6) 45 7) 46 8) 47 9) 48 0 (μ 10 0)) 48 1 (μ 10 1)) 49 11) 50 12) 51 13) 52 14) 53 15) 54 16) 55 17) 56 18) 57 19) 58 20) 41 4 (μ 3 4)) 41 5 (μ 3 5)) 55 = zcs μ 41 3 55)
    | 15, _ =>
      obtain rfl : (Sum.inr (0, 20) : zS) = sp := Option.some.inj hk
      exact (rfl : (zup (zup (zcp (zcp (zcp (zcp (zcp (zcp (zcp (zcp (zcp (zcp (zup (zup (zcp (zcp (zcp (zcp (zcp (zup μ 42 0 (μ 4 0)) 43 5) 44 6) 45 7) 46 8) 47 9) 48 0 (μ 10 0)) 48 1 (μ 10 1)) 49 11) 50 12) 51 13) 52 14) 53 15) 54 16) 55 17) 56 18) 57 19) 58 20) 41 4 (μ 3 4)) 41 5 (μ 3 5)) 56 = zcs μ 41 3 56)
    | 16, _ =>
      obtain rfl : (Sum.inr (0, 10) : zS) = sp := Option.some.inj hk
      exact (rfl : (zup (zup (zcp (zcp (zcp (zcp (zcp (zcp (zcp (zcp (zcp (zcp (zup (zup (zcp (zcp (zcp (zcp (zcp (zup μ 42 0 (μ 4 0)) 43 5) 44 6) 45 7) 46 8) 47 9) 48 0 (μ 10 0)) 48 1 (μ 10 1)) 49 11) 50 12) 51 13) 52 14) 53 15) 54 16) 55 17) 56 18) 57 19) 58 20) 41 4 (μ 3 4)) 41 5 (μ 3 5)) 57 = zcs μ 41 3 57)
    | 17, _ =>
      obtain rfl : (Sum.inr (0, 10) : zS) = sp := Option.some.inj hk
      exact (rfl : (zup (zup (zcp (zcp (zcp (zcp (zcp (zcp (zcp (zcp (zcp (zcp (zup (zup (zcp (zcp (zcp (zcp (zcp (zup μ 42 0 (μ 4 0)) 43 5) 44 6) 45 7) 46 8) 47 9) 48 0 (μ 10 0)) 48 1 (μ 10 1)) 49 11) 50 12) 51 13) 52 14) 53 15) 54 16) 55 17) 56 18) 57 19) 58 20) 41 4 (μ 3 4)) 41 5 (μ 3 5)) 58 = zcs μ 41 3 58)
    | o + 18, h => omega
set_option maxHeartbeats 4000000 in
set_option maxRecDepth 100000 in
theorem xz_copyFrom_41_3 {μ : zM} : Dz md_1_copyFrom [zr 41, zr 3] zSh μ none zSh (zcs μ 41 3) := by
  refine Dz.of (by decide) rfl rfl (show Ez md_1_copyFrom 0 0 0 [(0, zr 41), (1, zr 3)] [] zSh μ none zSh (zcs μ 41 3) from ?_)
  refine Az.blk kd_1_copyFrom_0 (show Ez md_1_copyFrom 0 0 8 [(0, zr 41), (1, zr 3)] [zr 4, zr 42] zSh μ _ _ _ from ?_)
  refine Az.cVN (mc := md_4_copyWordsFrom) (k := 42) (n := 1) (As := [zr 4]) (rest := []) kr_1_copyFrom_8 zw_263 ok_4_copyWordsFrom rfl rfl rfl trivial (xz_copyWordsFrom_42_4) rfl rfl (show Ez md_1_copyFrom 0 0 11 [(0, zr 41), (1, zr 3)] [] zSh (zcp (zcp (zcp (zcp (zcp (zup μ 42 0 (μ 4 0)) 43 5) 44 6) 45 7) 46 8) 47 9) _ _ _ from ?_)
  refine Az.blk kd_1_copyFrom_11 (show Ez md_1_copyFrom 0 0 19 [(0, zr 41), (1, zr 3)] [zr 10, zr 48] zSh (zcp (zcp (zcp (zcp (zcp (zup μ 42 0 (μ 4 0)) 43 5) 44 6) 45 7) 46 8) 47 9) _ _ _ from ?_)
  refine Az.cVN (mc := md_2_copyTaleFrom) (k := 48) (n := 1) (As := [zr 10]) (rest := []) kr_1_copyFrom_19 zw_276 ok_2_copyTaleFrom rfl rfl rfl trivial (xz_copyTaleFrom_48_10) rfl rfl (show Ez md_1_copyFrom 0 0 22 [(0, zr 41), (1, zr 3)] [] zSh (zcp (zcp (zcp (zcp (zcp (zcp (zcp (zcp (zup (zup (zcp (zcp (zcp (zcp (zcp (zup μ 42 0 (μ 4 0)) 43 5) 44 6) 45 7) 46 8) 47 9) 48 0 (μ 10 0)) 48 1 (μ 10 1)) 49 11) 50 12) 51 13) 52 14) 53 15) 54 16) 55 17) 56 18) _ _ _ from ?_)
  refine Az.blk kd_1_copyFrom_22 (show Ez md_1_copyFrom 0 0 30 [(0, zr 41), (1, zr 3)] [zr 57, zr 19] zSh (zcp (zcp (zcp (zcp (zcp (zcp (zcp (zcp (zup (zup (zcp (zcp (zcp (zcp (zcp (zup μ 42 0 (μ 4 0)) 43 5) 44 6) 45 7) 46 8) 47 9) 48 0 (μ 10 0)) 48 1 (μ 10 1)) 49 11) 50 12) 51 13) 52 14) 53 15) 54 16) 55 17) 56 18) _ _ _ from ?_)
  refine Az.cSN (mc := md_5_copyRow) (n := 2) (As := [zr 19, zr 57]) (rest := []) kr_1_copyFrom_30 zw_281 ok_5_copyRow rfl rfl (xz_copyRow 19 57 10 rfl rfl (by decide)) rfl rfl (show Ez md_1_copyFrom 0 0 33 [(0, zr 41), (1, zr 3)] [] zSh (zcp (zcp (zcp (zcp (zcp (zcp (zcp (zcp (zcp (zup (zup (zcp (zcp (zcp (zcp (zcp (zup μ 42 0 (μ 4 0)) 43 5) 44 6) 45 7) 46 8) 47 9) 48 0 (μ 10 0)) 48 1 (μ 10 1)) 49 11) 50 12) 51 13) 52 14) 53 15) 54 16) 55 17) 56 18) 57 19) _ _ _ from ?_)
  refine Az.blk kd_1_copyFrom_33 (show Ez md_1_copyFrom 0 0 41 [(0, zr 41), (1, zr 3)] [zr 58, zr 20] zSh (zcp (zcp (zcp (zcp (zcp (zcp (zcp (zcp (zcp (zup (zup (zcp (zcp (zcp (zcp (zcp (zup μ 42 0 (μ 4 0)) 43 5) 44 6) 45 7) 46 8) 47 9) 48 0 (μ 10 0)) 48 1 (μ 10 1)) 49 11) 50 12) 51 13) 52 14) 53 15) 54 16) 55 17) 56 18) 57 19) _ _ _ from ?_)
  refine Az.cSN (mc := md_5_copyRow) (n := 2) (As := [zr 20, zr 58]) (rest := []) kr_1_copyFrom_41 zw_281 ok_5_copyRow rfl rfl (xz_copyRow 20 58 10 rfl rfl (by decide)) rfl rfl (show Ez md_1_copyFrom 0 0 44 [(0, zr 41), (1, zr 3)] [] zSh (zcp (zcp (zcp (zcp (zcp (zcp (zcp (zcp (zcp (zcp (zup (zup (zcp (zcp (zcp (zcp (zcp (zup μ 42 0 (μ 4 0)) 43 5) 44 6) 45 7) 46 8) 47 9) 48 0 (μ 10 0)) 48 1 (μ 10 1)) 49 11) 50 12) 51 13) 52 14) 53 15) 54 16) 55 17) 56 18) 57 19) 58 20) _ _ _ from ?_)
  refine Az.blk kd_1_copyFrom_44 (show Ez md_1_copyFrom 0 0 60 [(0, zr 41), (1, zr 3)] [] zSh (zup (zup (zcp (zcp (zcp (zcp (zcp (zcp (zcp (zcp (zcp (zcp (zup (zup (zcp (zcp (zcp (zcp (zcp (zup μ 42 0 (μ 4 0)) 43 5) 44 6) 45 7) 46 8) 47 9) 48 0 (μ 10 0)) 48 1 (μ 10 1)) 49 11) 50 12) 51 13) 52 14) 53 15) 54 16) 55 17) 56 18) 57 19) 58 20) 41 4 (μ 3 4)) 41 5 (μ 3 5)) _ _ _ from ?_)
  refine Az.mem (μ' := zcs μ 41 3) (fun G k sp H hk h => by rw [← zsm_cell (zsm_41_3 μ) hk]; exact h) ?_
  exact Ez.vret kr_1_copyFrom_60 rfl (Nat.zero_le _) (Nat.zero_le _) rfl rfl
set_option maxHeartbeats 4000000 in
set_option maxRecDepth 100000 in
theorem xz_copyWordsFrom_60_4 {μ : zM} : Dz md_4_copyWordsFrom [zr 60, zr 4] zSh μ none zSh (zcp (zcp (zcp (zcp (zcp (zup μ 60 0 (μ 4 0)) 61 5) 62 6) 63 7) 64 8) 65 9) := by
  refine Dz.of (by decide) rfl rfl (show Ez md_4_copyWordsFrom 0 0 0 [(0, zr 60), (1, zr 4)] [] zSh μ none zSh (zcp (zcp (zcp (zcp (zcp (zup μ 60 0 (μ 4 0)) 61 5) 62 6) 63 7) 64 8) 65 9) from ?_)
  refine Az.blk kd_4_copyWordsFrom_0 (show Ez md_4_copyWordsFrom 0 0 16 [(0, zr 60), (1, zr 4)] [zr 61, zr 5] zSh (zup μ 60 0 (μ 4 0)) _ _ _ from ?_)
  refine Az.cSN (mc := md_5_copyRow) (n := 2) (As := [zr 5, zr 61]) (rest := []) kr_4_copyWordsFrom_16 zw_267 ok_5_copyRow rfl rfl (xz_copyRow 5 61 24 rfl rfl (by decide)) rfl rfl (show Ez md_4_copyWordsFrom 0 0 19 [(0, zr 60), (1, zr 4)] [] zSh (zcp (zup μ 60 0 (μ 4 0)) 61 5) _ _ _ from ?_)
  refine Az.blk kd_4_copyWordsFrom_19 (show Ez md_4_copyWordsFrom 0 0 27 [(0, zr 60), (1, zr 4)] [zr 62, zr 6] zSh (zcp (zup μ 60 0 (μ 4 0)) 61 5) _ _ _ from ?_)
  refine Az.cSN (mc := md_5_copyRow) (n := 2) (As := [zr 6, zr 62]) (rest := []) kr_4_copyWordsFrom_27 zw_267 ok_5_copyRow rfl rfl (xz_copyRow 6 62 24 rfl rfl (by decide)) rfl rfl (show Ez md_4_copyWordsFrom 0 0 30 [(0, zr 60), (1, zr 4)] [] zSh (zcp (zcp (zup μ 60 0 (μ 4 0)) 61 5) 62 6) _ _ _ from ?_)
  refine Az.blk kd_4_copyWordsFrom_30 (show Ez md_4_copyWordsFrom 0 0 38 [(0, zr 60), (1, zr 4)] [zr 63, zr 7] zSh (zcp (zcp (zup μ 60 0 (μ 4 0)) 61 5) 62 6) _ _ _ from ?_)
  refine Az.cSN (mc := md_5_copyRow) (n := 2) (As := [zr 7, zr 63]) (rest := []) kr_4_copyWordsFrom_38 zw_267 ok_5_copyRow rfl rfl (xz_copyRow 7 63 24 rfl rfl (by decide)) rfl rfl (show Ez md_4_copyWordsFrom 0 0 41 [(0, zr 60), (1, zr 4)] [] zSh (zcp (zcp (zcp (zup μ 60 0 (μ 4 0)) 61 5) 62 6) 63 7) _ _ _ from ?_)
  refine Az.blk kd_4_copyWordsFrom_41 (show Ez md_4_copyWordsFrom 0 0 49 [(0, zr 60), (1, zr 4)] [zr 64, zr 8] zSh (zcp (zcp (zcp (zup μ 60 0 (μ 4 0)) 61 5) 62 6) 63 7) _ _ _ from ?_)
  refine Az.cSN (mc := md_5_copyRow) (n := 2) (As := [zr 8, zr 64]) (rest := []) kr_4_copyWordsFrom_49 zw_267 ok_5_copyRow rfl rfl (xz_copyRow 8 64 192 rfl rfl (by decide)) rfl rfl (show Ez md_4_copyWordsFrom 0 0 52 [(0, zr 60), (1, zr 4)] [] zSh (zcp (zcp (zcp (zcp (zup μ 60 0 (μ 4 0)) 61 5) 62 6) 63 7) 64 8) _ _ _ from ?_)
  refine Az.blk kd_4_copyWordsFrom_52 (show Ez md_4_copyWordsFrom 0 0 60 [(0, zr 60), (1, zr 4)] [zr 65, zr 9] zSh (zcp (zcp (zcp (zcp (zup μ 60 0 (μ 4 0)) 61 5) 62 6) 63 7) 64 8) _ _ _ from ?_)
  refine Az.cSN (mc := md_5_copyRow) (n := 2) (As := [zr 9, zr 65]) (rest := []) kr_4_copyWordsFrom_60 zw_267 ok_5_copyRow rfl rfl (xz_copyRow 9 65 18 rfl rfl (by decide)) rfl rfl (show Ez md_4_copyWordsFrom 0 0 63 [(0, zr 60), (1, zr 4)] [] zSh (zcp (zcp (zcp (zcp (zcp (zup μ 60 0 (μ 4 0)) 61 5) 62 6) 63 7) 64 8) 65 9) _ _ _ from ?_)
  exact Ez.vret kr_4_copyWordsFrom_63 rfl (Nat.zero_le _) (Nat.zero_le _) rfl rfl
set_option maxHeartbeats 4000000 in
set_option maxRecDepth 100000 in
theorem xz_copyTaleFrom_66_10 {μ : zM} : Dz md_2_copyTaleFrom [zr 66, zr 10] zSh μ none zSh (zcp (zcp (zcp (zcp (zcp (zcp (zcp (zcp (zup (zup μ 66 0 (μ 10 0)) 66 1 (μ 10 1)) 67 11) 68 12) 69 13) 70 14) 71 15) 72 16) 73 17) 74 18) := by
  refine Dz.of (by decide) rfl rfl (show Ez md_2_copyTaleFrom 0 0 0 [(0, zr 66), (1, zr 10)] [] zSh μ none zSh (zcp (zcp (zcp (zcp (zcp (zcp (zcp (zcp (zup (zup μ 66 0 (μ 10 0)) 66 1 (μ 10 1)) 67 11) 68 12) 69 13) 70 14) 71 15) 72 16) 73 17) 74 18) from ?_)
  refine Az.blk kd_2_copyTaleFrom_0 (show Ez md_2_copyTaleFrom 0 0 24 [(0, zr 66), (1, zr 10)] [zr 67, zr 11] zSh (zup (zup μ 66 0 (μ 10 0)) 66 1 (μ 10 1)) _ _ _ from ?_)
  refine Az.cSN (mc := md_5_copyRow) (n := 2) (As := [zr 11, zr 67]) (rest := []) kr_2_copyTaleFrom_24 zw_280 ok_5_copyRow rfl rfl (xz_copyRow 11 67 20 rfl rfl (by decide)) rfl rfl (show Ez md_2_copyTaleFrom 0 0 27 [(0, zr 66), (1, zr 10)] [] zSh (zcp (zup (zup μ 66 0 (μ 10 0)) 66 1 (μ 10 1)) 67 11) _ _ _ from ?_)
  refine Az.blk kd_2_copyTaleFrom_27 (show Ez md_2_copyTaleFrom 0 0 35 [(0, zr 66), (1, zr 10)] [zr 68, zr 12] zSh (zcp (zup (zup μ 66 0 (μ 10 0)) 66 1 (μ 10 1)) 67 11) _ _ _ from ?_)
  refine Az.cSN (mc := md_5_copyRow) (n := 2) (As := [zr 12, zr 68]) (rest := []) kr_2_copyTaleFrom_35 zw_280 ok_5_copyRow rfl rfl (xz_copyRow 12 68 20 rfl rfl (by decide)) rfl rfl (show Ez md_2_copyTaleFrom 0 0 38 [(0, zr 66), (1, zr 10)] [] zSh (zcp (zcp (zup (zup μ 66 0 (μ 10 0)) 66 1 (μ 10 1)) 67 11) 68 12) _ _ _ from ?_)
  refine Az.blk kd_2_copyTaleFrom_38 (show Ez md_2_copyTaleFrom 0 0 46 [(0, zr 66), (1, zr 10)] [zr 69, zr 13] zSh (zcp (zcp (zup (zup μ 66 0 (μ 10 0)) 66 1 (μ 10 1)) 67 11) 68 12) _ _ _ from ?_)
  refine Az.cSN (mc := md_5_copyRow) (n := 2) (As := [zr 13, zr 69]) (rest := []) kr_2_copyTaleFrom_46 zw_280 ok_5_copyRow rfl rfl (xz_copyRow 13 69 20 rfl rfl (by decide)) rfl rfl (show Ez md_2_copyTaleFrom 0 0 49 [(0, zr 66), (1, zr 10)] [] zSh (zcp (zcp (zcp (zup (zup μ 66 0 (μ 10 0)) 66 1 (μ 10 1)) 67 11) 68 12) 69 13) _ _ _ from ?_)
  refine Az.blk kd_2_copyTaleFrom_49 (show Ez md_2_copyTaleFrom 0 0 57 [(0, zr 66), (1, zr 10)] [zr 70, zr 14] zSh (zcp (zcp (zcp (zup (zup μ 66 0 (μ 10 0)) 66 1 (μ 10 1)) 67 11) 68 12) 69 13) _ _ _ from ?_)
  refine Az.cSN (mc := md_5_copyRow) (n := 2) (As := [zr 14, zr 70]) (rest := []) kr_2_copyTaleFrom_57 zw_280 ok_5_copyRow rfl rfl (xz_copyRow 14 70 60 rfl rfl (by decide)) rfl rfl (show Ez md_2_copyTaleFrom 0 0 60 [(0, zr 66), (1, zr 10)] [] zSh (zcp (zcp (zcp (zcp (zup (zup μ 66 0 (μ 10 0)) 66 1 (μ 10 1)) 67 11) 68 12) 69 13) 70 14) _ _ _ from ?_)
  refine Az.blk kd_2_copyTaleFrom_60 (show Ez md_2_copyTaleFrom 0 0 68 [(0, zr 66), (1, zr 10)] [zr 71, zr 15] zSh (zcp (zcp (zcp (zcp (zup (zup μ 66 0 (μ 10 0)) 66 1 (μ 10 1)) 67 11) 68 12) 69 13) 70 14) _ _ _ from ?_)
  refine Az.cSN (mc := md_5_copyRow) (n := 2) (As := [zr 15, zr 71]) (rest := []) kr_2_copyTaleFrom_68 zw_280 ok_5_copyRow rfl rfl (xz_copyRow 15 71 20 rfl rfl (by decide)) rfl rfl (show Ez md_2_copyTaleFrom 0 0 71 [(0, zr 66), (1, zr 10)] [] zSh (zcp (zcp (zcp (zcp (zcp (zup (zup μ 66 0 (μ 10 0)) 66 1 (μ 10 1)) 67 11) 68 12) 69 13) 70 14) 71 15) _ _ _ from ?_)
  refine Az.blk kd_2_copyTaleFrom_71 (show Ez md_2_copyTaleFrom 0 0 79 [(0, zr 66), (1, zr 10)] [zr 72, zr 16] zSh (zcp (zcp (zcp (zcp (zcp (zup (zup μ 66 0 (μ 10 0)) 66 1 (μ 10 1)) 67 11) 68 12) 69 13) 70 14) 71 15) _ _ _ from ?_)
  refine Az.cSN (mc := md_5_copyRow) (n := 2) (As := [zr 16, zr 72]) (rest := []) kr_2_copyTaleFrom_79 zw_280 ok_5_copyRow rfl rfl (xz_copyRow 16 72 20 rfl rfl (by decide)) rfl rfl (show Ez md_2_copyTaleFrom 0 0 82 [(0, zr 66), (1, zr 10)] [] zSh (zcp (zcp (zcp (zcp (zcp (zcp (zup (zup μ 66 0 (μ 10 0)) 66 1 (μ 10 1)) 67 11) 68 12) 69 13) 70 14) 71 15) 72 16) _ _ _ from ?_)
  refine Az.blk kd_2_copyTaleFrom_82 (show Ez md_2_copyTaleFrom 0 0 90 [(0, zr 66), (1, zr 10)] [zr 73, zr 17] zSh (zcp (zcp (zcp (zcp (zcp (zcp (zup (zup μ 66 0 (μ 10 0)) 66 1 (μ 10 1)) 67 11) 68 12) 69 13) 70 14) 71 15) 72 16) _ _ _ from ?_)
  refine Az.cSN (mc := md_5_copyRow) (n := 2) (As := [zr 17, zr 73]) (rest := []) kr_2_copyTaleFrom_90 zw_280 ok_5_copyRow rfl rfl (xz_copyRow 17 73 20 rfl rfl (by decide)) rfl rfl (show Ez md_2_copyTaleFrom 0 0 93 [(0, zr 66), (1, zr 10)] [] zSh (zcp (zcp (zcp (zcp (zcp (zcp (zcp (zup (zup μ 66 0 (μ 10 0)) 66 1 (μ 10 1)) 67 11) 68 12) 69 13) 70 14) 71 15) 72 16) 73 17) _ _ _ from ?_)
  refine Az.blk kd_2_copyTaleFrom_93 (show Ez md_2_copyTaleFrom 0 0 101 [(0, zr 66), (1, zr 10)] [zr 74, zr 18] zSh (zcp (zcp (zcp (zcp (zcp (zcp (zcp (zup (zup μ 66 0 (μ 10 0)) 66 1 (μ 10 1)) 67 11) 68 12) 69 13) 70 14) 71 15) 72 16) 73 17) _ _ _ from ?_)
  refine Az.cSN (mc := md_5_copyRow) (n := 2) (As := [zr 18, zr 74]) (rest := []) kr_2_copyTaleFrom_101 zw_280 ok_5_copyRow rfl rfl (xz_copyRow 18 74 20 rfl rfl (by decide)) rfl rfl (show Ez md_2_copyTaleFrom 0 0 104 [(0, zr 66), (1, zr 10)] [] zSh (zcp (zcp (zcp (zcp (zcp (zcp (zcp (zcp (zup (zup μ 66 0 (μ 10 0)) 66 1 (μ 10 1)) 67 11) 68 12) 69 13) 70 14) 71 15) 72 16) 73 17) 74 18) _ _ _ from ?_)
  exact Ez.vret kr_2_copyTaleFrom_104 rfl (Nat.zero_le _) (Nat.zero_le _) rfl rfl
set_option maxRecDepth 100000 in
theorem zsm_59_3 (μ : zM) : zsm zSh (zup (zup (zcp (zcp (zcp (zcp (zcp (zcp (zcp (zcp (zcp (zcp (zup (zup (zcp (zcp (zcp (zcp (zcp (zup μ 60 0 (μ 4 0)) 61 5) 62 6) 63 7) 64 8) 65 9) 66 0 (μ 10 0)) 66 1 (μ 10 1)) 67 11) 68 12) 69 13) 70 14) 71 15) 72 16) 73 17) 74 18) 75 19) 76 20) 59 4 (μ 3 4)) 59 5 (μ 3 5)) (zcs μ 59 3) := by
  intro k sp hk
  by_cases e : k < 59 ∨ 77 ≤ k
  · have e1 : (zup (zup (zcp (zcp (zcp (zcp (zcp (zcp (zcp (zcp (zcp (zcp (zup (zup (zcp (zcp (zcp (zcp (zcp (zup μ 60 0 (μ 4 0)) 61 5) 62 6) 63 7) 64 8) 65 9) 66 0 (μ 10 0)) 66 1 (μ 10 1)) 67 11) 68 12) 69 13) 70 14) 71 15) 72 16) 73 17) 74 18) 75 19) 76 20) 59 4 (μ 3 4)) 59 5 (μ 3 5)) k = μ k := by
      rw [zup_ne (by omega), zup_ne (by omega), zcp_ne (by omega), zcp_ne (by omega), zcp_ne (by omega), zcp_ne (by omega), zcp_ne (by omega), zcp_ne (by omega), zcp_ne (by omega), zcp_ne (by omega), zcp_ne (by omega), zcp_ne (by omega), zup_ne (by omega), zup_ne (by omega), zcp_ne (by omega), zcp_ne (by omega), zcp_ne (by omega), zcp_ne (by omega), zcp_ne (by omega), zup_ne (by omega)]
    have e2 : zcs μ 59 3 k = μ k := zcs_ne (by omega)
    rcases sp with p | p
    · intro j _; rw [e1, e2]
    · show _ = _; rw [e1, e2]
  · obtain ⟨o, ho, rfl⟩ : ∃ o, o < 18 ∧ k = 59 + o := ⟨k - 59, by omega, by omega⟩
    match o, ho with
    | 0, _ =>
      obtain rfl : (Sum.inl (1, [some (some 60), some (some 66), some (some 75), some (some 76), none, none]) : zS) = sp := Option.some.inj hk
      intro j hj
      match j, hj with
      | 0, h => exact absurd h (by decide)
      | 1, h => exact absurd h (by decide)
      | 2, h => exact absurd h (by decide)
      | 3, h => exact absurd h (by decide)
      | 4, _ => exact (rfl : (zup (zup (zcp (zcp (zcp (zcp (zcp (zcp (zcp (zcp (zcp (zcp (zup (zup (zcp (zcp (zcp (zcp (zcp (zup μ 60 0 (μ 4 0)) 61 5) 62 6) 63 7) 64 8) 65 9) 66 0 (μ 10 0)) 66 1 (μ 10 1)) 67 11) 68 12) 69 13) 70 14) 71 15) 72 16) 73 17) 74 18) 75 19) 76 20) 59 4 (μ 3 4)) 59 5 (μ 3 5)) 59 4 = zcs μ 59 3 59 4)
      | 5, _ => exact (rfl : (zup (zup (zcp (zcp (zcp (zcp (zcp (zcp (zcp (zcp (zcp (zcp (zup (zup (zcp (zcp (zcp (zcp (zcp (zup μ 60 0 (μ 4 0)) 61 5) 62 6) 63 7) 64 8) 65 9) 66 0 (μ 10 0)) 66 1 (μ 10 1)) 67 11) 68 12) 69 13) 70 14) 71 15) 72 16) 73 17) 74 18) 75 19) 76 20) 59 4 (μ 3 4)) 59 5 (μ 3 5)) 59 5 = zcs μ 59 3 59 5)
      | j + 6, h => simp at h
    | 1, _ =>
      obtain rfl : (Sum.inl (4, [none, some (some 61), some (some 62), some (some 63), some (some 64), some (some 65)]) : zS) = sp := Option.some.inj hk
      intro j hj
      match j, hj with
      | 0, _ => exact (rfl : (zup (zup (zcp (zcp (zcp (zcp (zcp (zcp (zcp (zcp (zcp (zcp (zup (zup (zcp (zcp (zcp (zcp (zcp (zup μ 60 0 (μ 4 0)) 61 5) 62 6) 63 7) 64 8) 65 9) 66 0 (μ 10 0)) 66 1 (μ 10 1)) 67 11) 68 12) 69 13) 70 14) 71 15) 72 16) 73 17) 74 18) 75 19) 76 20) 59 4 (μ 3 4)) 59 5 (μ 3 5)) 60 0 = zcs μ 59 3 60 0)
      | 1, h => exact absurd h (by decide)
      | 2, h => exact absurd h (by decide)
      | 3, h => exact absurd h (by decide)
      | 4, h => exact absurd h (by decide)
      | 5, h => exact absurd h (by decide)
      | j + 6, h => simp at h
    | 2, _ =>
      obtain rfl : (Sum.inr (0, 24) : zS) = sp := Option.some.inj hk
      exact (rfl : (zup (zup (zcp (zcp (zcp (zcp (zcp (zcp (zcp (zcp (zcp (zcp (zup (zup (zcp (zcp (zcp (zcp (zcp (zup μ 60 0 (μ 4 0)) 61 5) 62 6) 63 7) 64 8) 65 9) 66 0 (μ 10 0)) 66 1 (μ 10 1)) 67 11) 68 12) 69 13) 70 14) 71 15) 72 16) 73 17) 74 18) 75 19) 76 20) 59 4 (μ 3 4)) 59 5 (μ 3 5)) 61 = zcs μ 59 3 61)
    | 3, _ =>
      obtain rfl : (Sum.inr (0, 24) : zS) = sp := Option.some.inj hk
      exact (rfl : (zup (zup (zcp (zcp (zcp (zcp (zcp (zcp (zcp (zcp (zcp (zcp (zup (zup (zcp (zcp (zcp (zcp (zcp (zup μ 60 0 (μ 4 0)) 61 5) 62 6) 63 7) 64 8) 65 9) 66 0 (μ 10 0)) 66 1 (μ 10 1)) 67 11) 68 12) 69 13) 70 14) 71 15) 72 16) 73 17) 74 18) 75 19) 76 20) 59 4 (μ 3 4)) 59 5 (μ 3 5)) 62 = zcs μ 59 3 62)
    | 4, _ =>
      obtain rfl : (Sum.inr (0, 24) : zS) = sp := Option.some.inj hk
      exact (rfl : (zup (zup (zcp (zcp (zcp (zcp (zcp (zcp (zcp (zcp (zcp (zcp (zup (zup (zcp (zcp (zcp (zcp (zcp (zup μ 60 0 (μ 4 0)) 61 5) 62 6) 63 7) 64 8) 65 9) 66 0 (μ 10 0)) 66 1 (μ 10 1)) 67 11) 68 12) 69 13) 70 14) 71 15) 72 16) 73 17) 74 18) 75 19) 76 20) 59 4 (μ 3 4)) 59 5 (μ 3 5)) 63 = zcs μ 59 3 63)
    | 5, _ =>
      obtain rfl : (Sum.inr (0, 192) : zS) = sp := Option.some.inj hk
      exact (rfl : (zup (zup (zcp (zcp (zcp (zcp (zcp (zcp (zcp (zcp (zcp (zcp (zup (zup (zcp (zcp (zcp (zcp (zcp (zup μ 60 0 (μ 4 0)) 61 5) 62 6) 63 7) 64 8) 65 9) 66 0 (μ 10 0)) 66 1 (μ 10 1)) 67 11) 68 12) 69 13) 70 14) 71 15) 72 16) 73 17) 74 18) 75 19) 76 20) 59 4 (μ 3 4)) 59 5 (μ 3 5)) 64 = zcs μ 59 3 64)
    | 6, _ =>
      obtain rfl : (Sum.inr (0, 18) : zS) = sp := Option.some.inj hk
      exact (rfl : (zup (zup (zcp (zcp (zcp (zcp (zcp (zcp (zcp (zcp (zcp (zcp (zup (zup (zcp (zcp (zcp (zcp (zcp (zup μ 60 0 (μ 4 0)) 61 5) 62 6) 63 7) 64 8) 65 9) 66 0 (μ 10 0)) 66 1 (μ 10 1)) 67 11) 68 12) 69 13) 70 14) 71 15) 72 16) 73 17) 74 18) 75 19) 76 20) 59 4 (μ 3 4)) 59 5 (μ 3 5)) 65 = zcs μ 59 3 65)
    | 7, _ =>
      obtain rfl : (Sum.inl (2, [none, none, some (some 67), some (some 68), some (some 69), some (some 70), some (some 71), some (some 72), some (some 73), some (some 74)]) : zS) = sp := Option.some.inj hk
      intro j hj
      match j, hj with
      | 0, _ => exact (rfl : (zup (zup (zcp (zcp (zcp (zcp (zcp (zcp (zcp (zcp (zcp (zcp (zup (zup (zcp (zcp (zcp (zcp (zcp (zup μ 60 0 (μ 4 0)) 61 5) 62 6) 63 7) 64 8) 65 9) 66 0 (μ 10 0)) 66 1 (μ 10 1)) 67 11) 68 12) 69 13) 70 14) 71 15) 72 16) 73 17) 74 18) 75 19) 76 20) 59 4 (μ 3 4)) 59 5 (μ 3 5)) 66 0 = zcs μ 59 3 66 0)
      | 1, _ => exact (rfl : (zup (zup (zcp (zcp (zcp (zcp (zcp (zcp (zcp (zcp (zcp (zcp (zup (zup (zcp (zcp (zcp (zcp (zcp (zup μ 60 0 (μ 4 0)) 61 5) 62 6) 63 7) 64 8) 65 9) 66 0 (μ 10 0)) 66 1 (μ 10 1)) 67 11) 68 12) 69 13) 70 14) 71 15) 72 16) 73 17) 74 18) 75 19) 76 20) 59 4 (μ 3 4)) 59 5 (μ 3 5)) 66 1 = zcs μ 59 3 66 1)
      | 2, h => exact absurd h (by decide)
      | 3, h => exact absurd h (by decide)
      | 4, h => exact absurd h (by decide)
      | 5, h => exact absurd h (by decide)
      | 6, h => exact absurd h (by decide)
      | 7, h => exact absurd h (by decide)
      | 8, h => exact absurd h (by decide)
      | 9, h => exact absurd h (by decide)
      | j + 10, h => simp at h
    | 8, _ =>
      obtain rfl : (Sum.inr (0, 20) : zS) = sp := Option.some.inj hk
      exact (rfl : (zup (zup (zcp (zcp (zcp (zcp (zcp (zcp (zcp (zcp (zcp (zcp (zup (zup (zcp (zcp (zcp (zcp (zcp (zup μ 60 0 (μ 4 0)) 61 5) 62 6) 63 7) 64 8) 65 9) 66 0 (μ 10 0)) 66 1 (μ 10 1)) 67 11) 68 12) 69 13) 70 14) 71 15) 72 16) 73 17) 74 18) 75 19) 76 20) 59 4 (μ 3 4)) 59 5 (μ 3 5)) 67 = zcs μ 59 3 67)
    | 9, _ =>
      obtain rfl : (Sum.inr (0, 20) : zS) = sp := Option.some.inj hk
      exact (rfl : (zup (zup (zcp (zcp (zcp (zcp (zcp (zcp (zcp (zcp (zcp (zcp (zup (zup (zcp (zcp (zcp (zcp (zcp (zup μ 60 0 (μ 4 0)) 61 5) 62 6) 63 7) 64 8) 65 9) 66 0 (μ 10 0)) 66 1 (μ 10 1)) 67 11) 68 12) 69 13) 70 14) 71 15) 72 16) 73 17) 74 18) 75 19) 76 20) 59 4 (μ 3 4)) 59 5 (μ 3 5)) 68 = zcs μ 59 3 68)
    | 10, _ =>
      obtain rfl : (Sum.inr (0, 20) : zS) = sp := Option.some.inj hk
      exact (rfl : (zup (zup (zcp (zcp (zcp (zcp (zcp (zcp (zcp (zcp (zcp (zcp (zup (zup (zcp (zcp (zcp (zcp (zcp (zup μ 60 0 (μ 4 0)) 61 5) 62 6) 63 7) 64 8) 65 9) 66 0 (μ 10 0)) 66 1 (μ 10 1)) 67 11) 68 12) 69 13) 70 14) 71 15) 72 16) 73 17) 74 18) 75 19) 76 20) 59 4 (μ 3 4)) 59 5 (μ 3 5)) 69 = zcs μ 59 3 69)
    | 11, _ =>
      obtain rfl : (Sum.inr (0, 60) : zS) = sp := Option.some.inj hk
      exact (rfl : (zup (zup (zcp (zcp (zcp (zcp (zcp (zcp (zcp (zcp (zcp (zcp (zup (zup (zcp (zcp (zcp (zcp (zcp (zup μ 60 0 (μ 4 0)) 61 5) 62 6) 63 7) 64 8) 65 9) 66 0 (μ 10 0)) 66 1 (μ 10 1)) 67 11) 68 12) 69 13) 70 14) 71 15) 72 16) 73 17) 74 18) 75 19) 76 20) 59 4 (μ 3 4)) 59 5 (μ 3 5)) 70 = zcs μ 59 3 70)
    | 12, _ =>
      obtain rfl : (Sum.inr (0, 20) : zS) = sp := Option.some.inj hk
      exact (rfl : (zup (zup (zcp (zcp (zcp (zcp (zcp (zcp (zcp (zcp (zcp (zcp (zup (zup (zcp (zcp (zcp (zcp (zcp (zup μ 60 0 (μ 4 0)) 61 5) 62 6) 63 7) 64 8) 65 9) 66 0 (μ 10 0)) 66 1 (μ 10 1)) 67 11) 68 12) 69 13) 70 14) 71 15) 72 16) 73 17) 74 18) 75 19) 76 20) 59 4 (μ 3 4)) 59 5 (μ 3 5)) 71 = zcs μ 59 3 71)
    | 13, _ =>
      obtain rfl : (Sum.inr (0, 20) : zS) = sp := Option.some.inj hk
      exact (rfl : (zup (zup (zcp (zcp (zcp (zcp (zcp (zcp (zcp (zcp (zcp (zcp (zup (zup (zcp (zcp (zcp (zcp (zcp (zup μ 60 0 (μ 4 0)) 61 5) 62 6) 63 7) 64 8) 65 9) 66 0 (μ 10 0)) 66 1 (μ 10 1)) 67 11) 68 12) 69 13) 70 14) 71 15) 72 16) 73 17) 74 18) 75 19) 76 20) 59 4 (μ 3 4)) 59 5 (μ 3 5)) 72 = zcs μ 59 3 72)
    | 14, _ =>
      obtain rfl : (Sum.inr (0, 20) : zS) = sp := Option.some.inj hk
      exact (rfl : (zup (zup (zcp (zcp (zcp (zcp (zcp (zcp (zcp (zcp (zcp (zcp (zup (zup (zcp (zcp (zcp (zcp (zcp (zup μ 60 0 (μ 4 0)) 61 5) 62 6) 63 7) 64 8) 65 9) 66 0 (μ 10 0)) 66 1 (μ 10 1)) 67 11) 68 12) 69 13) 70 14) 71 15) 72 16) 73 17) 74 18) 75 19) 76 20) 59 4 (μ 3 4)) 59 5 (μ 3 5)) 73 = zcs μ 59 3 73)
    | 15, _ =>
      obtain rfl : (Sum.inr (0, 20) : zS) = sp := Option.some.inj hk
      exact (rfl : (zup (zup (zcp (zcp (zcp (zcp (zcp (zcp (zcp (zcp (zcp (zcp (zup (zup (zcp (zcp (zcp (zcp (zcp (zup μ 60 0 (μ 4 0)) 61 5) 62 6) 63 7) 64 8) 65 9) 66 0 (μ 10 0)) 66 1 (μ 10 1)) 67 11) 68 12) 69 13) 70 14) 71 15) 72 16) 73 17) 74 18) 75 19) 76 20) 59 4 (μ 3 4)) 59 5 (μ 3 5)) 74 = zcs μ 59 3 74)
    | 16, _ =>
      obtain rfl : (Sum.inr (0, 10) : zS) = sp := Option.some.inj hk
      exact (rfl : (zup (zup (zcp (zcp (zcp (zcp (zcp (zcp (zcp (zcp (zcp (zcp (zup (zup (zcp (zcp (zcp (zcp (zcp (zup μ 60 0 (μ 4 0)) 61 5) 62 6) 63 7) 64 8) 65 9) 66 0 (μ 10 0)) 66 1 (μ 10 1)) 67 11) 68 12) 69 13) 70 14) 71 15) 72 16) 73 17) 74 18) 75 19) 76 20) 59 4 (μ 3 4)) 59 5 (μ 3 5)) 75 = zcs μ 59 3 75)
    | 17, _ =>
      obtain rfl : (Sum.inr (0, 10) : zS) = sp := Option.some.inj hk
      exact (rfl : (zup (zup (zcp (zcp (zcp (zcp (zcp (zcp (zcp (zcp (zcp (zcp (zup (zup (zcp (zcp (zcp (zcp (zcp (zup μ 60 0 (μ 4 0)) 61 5) 62 6) 63 7) 64 8) 65 9) 66 0 (μ 10 0)) 66 1 (μ 10 1)) 67 11) 68 12) 69 13) 70 14) 71 15) 72 16) 73 17) 74 18) 75 19) 76 20) 59 4 (μ 3 4)) 59 5 (μ 3 5)) 76 = zcs μ 59 3 76)
    | o + 18, h => omega
set_option maxHeartbeats 4000000 in
set_option maxRecDepth 100000 in
theorem xz_copyFrom_59_3 {μ : zM} : Dz md_1_copyFrom [zr 59, zr 3] zSh μ none zSh (zcs μ 59 3) := by
  refine Dz.of (by decide) rfl rfl (show Ez md_1_copyFrom 0 0 0 [(0, zr 59), (1, zr 3)] [] zSh μ none zSh (zcs μ 59 3) from ?_)
  refine Az.blk kd_1_copyFrom_0 (show Ez md_1_copyFrom 0 0 8 [(0, zr 59), (1, zr 3)] [zr 4, zr 60] zSh μ _ _ _ from ?_)
  refine Az.cVN (mc := md_4_copyWordsFrom) (k := 60) (n := 1) (As := [zr 4]) (rest := []) kr_1_copyFrom_8 zw_263 ok_4_copyWordsFrom rfl rfl rfl trivial (xz_copyWordsFrom_60_4) rfl rfl (show Ez md_1_copyFrom 0 0 11 [(0, zr 59), (1, zr 3)] [] zSh (zcp (zcp (zcp (zcp (zcp (zup μ 60 0 (μ 4 0)) 61 5) 62 6) 63 7) 64 8) 65 9) _ _ _ from ?_)
  refine Az.blk kd_1_copyFrom_11 (show Ez md_1_copyFrom 0 0 19 [(0, zr 59), (1, zr 3)] [zr 10, zr 66] zSh (zcp (zcp (zcp (zcp (zcp (zup μ 60 0 (μ 4 0)) 61 5) 62 6) 63 7) 64 8) 65 9) _ _ _ from ?_)
  refine Az.cVN (mc := md_2_copyTaleFrom) (k := 66) (n := 1) (As := [zr 10]) (rest := []) kr_1_copyFrom_19 zw_276 ok_2_copyTaleFrom rfl rfl rfl trivial (xz_copyTaleFrom_66_10) rfl rfl (show Ez md_1_copyFrom 0 0 22 [(0, zr 59), (1, zr 3)] [] zSh (zcp (zcp (zcp (zcp (zcp (zcp (zcp (zcp (zup (zup (zcp (zcp (zcp (zcp (zcp (zup μ 60 0 (μ 4 0)) 61 5) 62 6) 63 7) 64 8) 65 9) 66 0 (μ 10 0)) 66 1 (μ 10 1)) 67 11) 68 12) 69 13) 70 14) 71 15) 72 16) 73 17) 74 18) _ _ _ from ?_)
  refine Az.blk kd_1_copyFrom_22 (show Ez md_1_copyFrom 0 0 30 [(0, zr 59), (1, zr 3)] [zr 75, zr 19] zSh (zcp (zcp (zcp (zcp (zcp (zcp (zcp (zcp (zup (zup (zcp (zcp (zcp (zcp (zcp (zup μ 60 0 (μ 4 0)) 61 5) 62 6) 63 7) 64 8) 65 9) 66 0 (μ 10 0)) 66 1 (μ 10 1)) 67 11) 68 12) 69 13) 70 14) 71 15) 72 16) 73 17) 74 18) _ _ _ from ?_)
  refine Az.cSN (mc := md_5_copyRow) (n := 2) (As := [zr 19, zr 75]) (rest := []) kr_1_copyFrom_30 zw_281 ok_5_copyRow rfl rfl (xz_copyRow 19 75 10 rfl rfl (by decide)) rfl rfl (show Ez md_1_copyFrom 0 0 33 [(0, zr 59), (1, zr 3)] [] zSh (zcp (zcp (zcp (zcp (zcp (zcp (zcp (zcp (zcp (zup (zup (zcp (zcp (zcp (zcp (zcp (zup μ 60 0 (μ 4 0)) 61 5) 62 6) 63 7) 64 8) 65 9) 66 0 (μ 10 0)) 66 1 (μ 10 1)) 67 11) 68 12) 69 13) 70 14) 71 15) 72 16) 73 17) 74 18) 75 19) _ _ _ from ?_)
  refine Az.blk kd_1_copyFrom_33 (show Ez md_1_copyFrom 0 0 41 [(0, zr 59), (1, zr 3)] [zr 76, zr 20] zSh (zcp (zcp (zcp (zcp (zcp (zcp (zcp (zcp (zcp (zup (zup (zcp (zcp (zcp (zcp (zcp (zup μ 60 0 (μ 4 0)) 61 5) 62 6) 63 7) 64 8) 65 9) 66 0 (μ 10 0)) 66 1 (μ 10 1)) 67 11) 68 12) 69 13) 70 14) 71 15) 72 16) 73 17) 74 18) 75 19) _ _ _ from ?_)
  refine Az.cSN (mc := md_5_copyRow) (n := 2) (As := [zr 20, zr 76]) (rest := []) kr_1_copyFrom_41 zw_281 ok_5_copyRow rfl rfl (xz_copyRow 20 76 10 rfl rfl (by decide)) rfl rfl (show Ez md_1_copyFrom 0 0 44 [(0, zr 59), (1, zr 3)] [] zSh (zcp (zcp (zcp (zcp (zcp (zcp (zcp (zcp (zcp (zcp (zup (zup (zcp (zcp (zcp (zcp (zcp (zup μ 60 0 (μ 4 0)) 61 5) 62 6) 63 7) 64 8) 65 9) 66 0 (μ 10 0)) 66 1 (μ 10 1)) 67 11) 68 12) 69 13) 70 14) 71 15) 72 16) 73 17) 74 18) 75 19) 76 20) _ _ _ from ?_)
  refine Az.blk kd_1_copyFrom_44 (show Ez md_1_copyFrom 0 0 60 [(0, zr 59), (1, zr 3)] [] zSh (zup (zup (zcp (zcp (zcp (zcp (zcp (zcp (zcp (zcp (zcp (zcp (zup (zup (zcp (zcp (zcp (zcp (zcp (zup μ 60 0 (μ 4 0)) 61 5) 62 6) 63 7) 64 8) 65 9) 66 0 (μ 10 0)) 66 1 (μ 10 1)) 67 11) 68 12) 69 13) 70 14) 71 15) 72 16) 73 17) 74 18) 75 19) 76 20) 59 4 (μ 3 4)) 59 5 (μ 3 5)) _ _ _ from ?_)
  refine Az.mem (μ' := zcs μ 59 3) (fun G k sp H hk h => by rw [← zsm_cell (zsm_59_3 μ) hk]; exact h) ?_
  exact Ez.vret kr_1_copyFrom_60 rfl (Nat.zero_le _) (Nat.zero_le _) rfl rfl
set_option maxHeartbeats 4000000 in
set_option maxRecDepth 100000 in
theorem xz_copyWordsFrom_78_4 {μ : zM} : Dz md_4_copyWordsFrom [zr 78, zr 4] zSh μ none zSh (zcp (zcp (zcp (zcp (zcp (zup μ 78 0 (μ 4 0)) 79 5) 80 6) 81 7) 82 8) 83 9) := by
  refine Dz.of (by decide) rfl rfl (show Ez md_4_copyWordsFrom 0 0 0 [(0, zr 78), (1, zr 4)] [] zSh μ none zSh (zcp (zcp (zcp (zcp (zcp (zup μ 78 0 (μ 4 0)) 79 5) 80 6) 81 7) 82 8) 83 9) from ?_)
  refine Az.blk kd_4_copyWordsFrom_0 (show Ez md_4_copyWordsFrom 0 0 16 [(0, zr 78), (1, zr 4)] [zr 79, zr 5] zSh (zup μ 78 0 (μ 4 0)) _ _ _ from ?_)
  refine Az.cSN (mc := md_5_copyRow) (n := 2) (As := [zr 5, zr 79]) (rest := []) kr_4_copyWordsFrom_16 zw_267 ok_5_copyRow rfl rfl (xz_copyRow 5 79 24 rfl rfl (by decide)) rfl rfl (show Ez md_4_copyWordsFrom 0 0 19 [(0, zr 78), (1, zr 4)] [] zSh (zcp (zup μ 78 0 (μ 4 0)) 79 5) _ _ _ from ?_)
  refine Az.blk kd_4_copyWordsFrom_19 (show Ez md_4_copyWordsFrom 0 0 27 [(0, zr 78), (1, zr 4)] [zr 80, zr 6] zSh (zcp (zup μ 78 0 (μ 4 0)) 79 5) _ _ _ from ?_)
  refine Az.cSN (mc := md_5_copyRow) (n := 2) (As := [zr 6, zr 80]) (rest := []) kr_4_copyWordsFrom_27 zw_267 ok_5_copyRow rfl rfl (xz_copyRow 6 80 24 rfl rfl (by decide)) rfl rfl (show Ez md_4_copyWordsFrom 0 0 30 [(0, zr 78), (1, zr 4)] [] zSh (zcp (zcp (zup μ 78 0 (μ 4 0)) 79 5) 80 6) _ _ _ from ?_)
  refine Az.blk kd_4_copyWordsFrom_30 (show Ez md_4_copyWordsFrom 0 0 38 [(0, zr 78), (1, zr 4)] [zr 81, zr 7] zSh (zcp (zcp (zup μ 78 0 (μ 4 0)) 79 5) 80 6) _ _ _ from ?_)
  refine Az.cSN (mc := md_5_copyRow) (n := 2) (As := [zr 7, zr 81]) (rest := []) kr_4_copyWordsFrom_38 zw_267 ok_5_copyRow rfl rfl (xz_copyRow 7 81 24 rfl rfl (by decide)) rfl rfl (show Ez md_4_copyWordsFrom 0 0 41 [(0, zr 78), (1, zr 4)] [] zSh (zcp (zcp (zcp (zup μ 78 0 (μ 4 0)) 79 5) 80 6) 81 7) _ _ _ from ?_)
  refine Az.blk kd_4_copyWordsFrom_41 (show Ez md_4_copyWordsFrom 0 0 49 [(0, zr 78), (1, zr 4)] [zr 82, zr 8] zSh (zcp (zcp (zcp (zup μ 78 0 (μ 4 0)) 79 5) 80 6) 81 7) _ _ _ from ?_)
  refine Az.cSN (mc := md_5_copyRow) (n := 2) (As := [zr 8, zr 82]) (rest := []) kr_4_copyWordsFrom_49 zw_267 ok_5_copyRow rfl rfl (xz_copyRow 8 82 192 rfl rfl (by decide)) rfl rfl (show Ez md_4_copyWordsFrom 0 0 52 [(0, zr 78), (1, zr 4)] [] zSh (zcp (zcp (zcp (zcp (zup μ 78 0 (μ 4 0)) 79 5) 80 6) 81 7) 82 8) _ _ _ from ?_)
  refine Az.blk kd_4_copyWordsFrom_52 (show Ez md_4_copyWordsFrom 0 0 60 [(0, zr 78), (1, zr 4)] [zr 83, zr 9] zSh (zcp (zcp (zcp (zcp (zup μ 78 0 (μ 4 0)) 79 5) 80 6) 81 7) 82 8) _ _ _ from ?_)
  refine Az.cSN (mc := md_5_copyRow) (n := 2) (As := [zr 9, zr 83]) (rest := []) kr_4_copyWordsFrom_60 zw_267 ok_5_copyRow rfl rfl (xz_copyRow 9 83 18 rfl rfl (by decide)) rfl rfl (show Ez md_4_copyWordsFrom 0 0 63 [(0, zr 78), (1, zr 4)] [] zSh (zcp (zcp (zcp (zcp (zcp (zup μ 78 0 (μ 4 0)) 79 5) 80 6) 81 7) 82 8) 83 9) _ _ _ from ?_)
  exact Ez.vret kr_4_copyWordsFrom_63 rfl (Nat.zero_le _) (Nat.zero_le _) rfl rfl
set_option maxHeartbeats 4000000 in
set_option maxRecDepth 100000 in
theorem xz_copyTaleFrom_84_10 {μ : zM} : Dz md_2_copyTaleFrom [zr 84, zr 10] zSh μ none zSh (zcp (zcp (zcp (zcp (zcp (zcp (zcp (zcp (zup (zup μ 84 0 (μ 10 0)) 84 1 (μ 10 1)) 85 11) 86 12) 87 13) 88 14) 89 15) 90 16) 91 17) 92 18) := by
  refine Dz.of (by decide) rfl rfl (show Ez md_2_copyTaleFrom 0 0 0 [(0, zr 84), (1, zr 10)] [] zSh μ none zSh (zcp (zcp (zcp (zcp (zcp (zcp (zcp (zcp (zup (zup μ 84 0 (μ 10 0)) 84 1 (μ 10 1)) 85 11) 86 12) 87 13) 88 14) 89 15) 90 16) 91 17) 92 18) from ?_)
  refine Az.blk kd_2_copyTaleFrom_0 (show Ez md_2_copyTaleFrom 0 0 24 [(0, zr 84), (1, zr 10)] [zr 85, zr 11] zSh (zup (zup μ 84 0 (μ 10 0)) 84 1 (μ 10 1)) _ _ _ from ?_)
  refine Az.cSN (mc := md_5_copyRow) (n := 2) (As := [zr 11, zr 85]) (rest := []) kr_2_copyTaleFrom_24 zw_280 ok_5_copyRow rfl rfl (xz_copyRow 11 85 20 rfl rfl (by decide)) rfl rfl (show Ez md_2_copyTaleFrom 0 0 27 [(0, zr 84), (1, zr 10)] [] zSh (zcp (zup (zup μ 84 0 (μ 10 0)) 84 1 (μ 10 1)) 85 11) _ _ _ from ?_)
  refine Az.blk kd_2_copyTaleFrom_27 (show Ez md_2_copyTaleFrom 0 0 35 [(0, zr 84), (1, zr 10)] [zr 86, zr 12] zSh (zcp (zup (zup μ 84 0 (μ 10 0)) 84 1 (μ 10 1)) 85 11) _ _ _ from ?_)
  refine Az.cSN (mc := md_5_copyRow) (n := 2) (As := [zr 12, zr 86]) (rest := []) kr_2_copyTaleFrom_35 zw_280 ok_5_copyRow rfl rfl (xz_copyRow 12 86 20 rfl rfl (by decide)) rfl rfl (show Ez md_2_copyTaleFrom 0 0 38 [(0, zr 84), (1, zr 10)] [] zSh (zcp (zcp (zup (zup μ 84 0 (μ 10 0)) 84 1 (μ 10 1)) 85 11) 86 12) _ _ _ from ?_)
  refine Az.blk kd_2_copyTaleFrom_38 (show Ez md_2_copyTaleFrom 0 0 46 [(0, zr 84), (1, zr 10)] [zr 87, zr 13] zSh (zcp (zcp (zup (zup μ 84 0 (μ 10 0)) 84 1 (μ 10 1)) 85 11) 86 12) _ _ _ from ?_)
  refine Az.cSN (mc := md_5_copyRow) (n := 2) (As := [zr 13, zr 87]) (rest := []) kr_2_copyTaleFrom_46 zw_280 ok_5_copyRow rfl rfl (xz_copyRow 13 87 20 rfl rfl (by decide)) rfl rfl (show Ez md_2_copyTaleFrom 0 0 49 [(0, zr 84), (1, zr 10)] [] zSh (zcp (zcp (zcp (zup (zup μ 84 0 (μ 10 0)) 84 1 (μ 10 1)) 85 11) 86 12) 87 13) _ _ _ from ?_)
  refine Az.blk kd_2_copyTaleFrom_49 (show Ez md_2_copyTaleFrom 0 0 57 [(0, zr 84), (1, zr 10)] [zr 88, zr 14] zSh (zcp (zcp (zcp (zup (zup μ 84 0 (μ 10 0)) 84 1 (μ 10 1)) 85 11) 86 12) 87 13) _ _ _ from ?_)
  refine Az.cSN (mc := md_5_copyRow) (n := 2) (As := [zr 14, zr 88]) (rest := []) kr_2_copyTaleFrom_57 zw_280 ok_5_copyRow rfl rfl (xz_copyRow 14 88 60 rfl rfl (by decide)) rfl rfl (show Ez md_2_copyTaleFrom 0 0 60 [(0, zr 84), (1, zr 10)] [] zSh (zcp (zcp (zcp (zcp (zup (zup μ 84 0 (μ 10 0)) 84 1 (μ 10 1)) 85 11) 86 12) 87 13) 88 14) _ _ _ from ?_)
  refine Az.blk kd_2_copyTaleFrom_60 (show Ez md_2_copyTaleFrom 0 0 68 [(0, zr 84), (1, zr 10)] [zr 89, zr 15] zSh (zcp (zcp (zcp (zcp (zup (zup μ 84 0 (μ 10 0)) 84 1 (μ 10 1)) 85 11) 86 12) 87 13) 88 14) _ _ _ from ?_)
  refine Az.cSN (mc := md_5_copyRow) (n := 2) (As := [zr 15, zr 89]) (rest := []) kr_2_copyTaleFrom_68 zw_280 ok_5_copyRow rfl rfl (xz_copyRow 15 89 20 rfl rfl (by decide)) rfl rfl (show Ez md_2_copyTaleFrom 0 0 71 [(0, zr 84), (1, zr 10)] [] zSh (zcp (zcp (zcp (zcp (zcp (zup (zup μ 84 0 (μ 10 0)) 84 1 (μ 10 1)) 85 11) 86 12) 87 13) 88 14) 89 15) _ _ _ from ?_)
  refine Az.blk kd_2_copyTaleFrom_71 (show Ez md_2_copyTaleFrom 0 0 79 [(0, zr 84), (1, zr 10)] [zr 90, zr 16] zSh (zcp (zcp (zcp (zcp (zcp (zup (zup μ 84 0 (μ 10 0)) 84 1 (μ 10 1)) 85 11) 86 12) 87 13) 88 14) 89 15) _ _ _ from ?_)
  refine Az.cSN (mc := md_5_copyRow) (n := 2) (As := [zr 16, zr 90]) (rest := []) kr_2_copyTaleFrom_79 zw_280 ok_5_copyRow rfl rfl (xz_copyRow 16 90 20 rfl rfl (by decide)) rfl rfl (show Ez md_2_copyTaleFrom 0 0 82 [(0, zr 84), (1, zr 10)] [] zSh (zcp (zcp (zcp (zcp (zcp (zcp (zup (zup μ 84 0 (μ 10 0)) 84 1 (μ 10 1)) 85 11) 86 12) 87 13) 88 14) 89 15) 90 16) _ _ _ from ?_)
  refine Az.blk kd_2_copyTaleFrom_82 (show Ez md_2_copyTaleFrom 0 0 90 [(0, zr 84), (1, zr 10)] [zr 91, zr 17] zSh (zcp (zcp (zcp (zcp (zcp (zcp (zup (zup μ 84 0 (μ 10 0)) 84 1 (μ 10 1)) 85 11) 86 12) 87 13) 88 14) 89 15) 90 16) _ _ _ from ?_)
  refine Az.cSN (mc := md_5_copyRow) (n := 2) (As := [zr 17, zr 91]) (rest := []) kr_2_copyTaleFrom_90 zw_280 ok_5_copyRow rfl rfl (xz_copyRow 17 91 20 rfl rfl (by decide)) rfl rfl (show Ez md_2_copyTaleFrom 0 0 93 [(0, zr 84), (1, zr 10)] [] zSh (zcp (zcp (zcp (zcp (zcp (zcp (zcp (zup (zup μ 84 0 (μ 10 0)) 84 1 (μ 10 1)) 85 11) 86 12) 87 13) 88 14) 89 15) 90 16) 91 17) _ _ _ from ?_)
  refine Az.blk kd_2_copyTaleFrom_93 (show Ez md_2_copyTaleFrom 0 0 101 [(0, zr 84), (1, zr 10)] [zr 92, zr 18] zSh (zcp (zcp (zcp (zcp (zcp (zcp (zcp (zup (zup μ 84 0 (μ 10 0)) 84 1 (μ 10 1)) 85 11) 86 12) 87 13) 88 14) 89 15) 90 16) 91 17) _ _ _ from ?_)
  refine Az.cSN (mc := md_5_copyRow) (n := 2) (As := [zr 18, zr 92]) (rest := []) kr_2_copyTaleFrom_101 zw_280 ok_5_copyRow rfl rfl (xz_copyRow 18 92 20 rfl rfl (by decide)) rfl rfl (show Ez md_2_copyTaleFrom 0 0 104 [(0, zr 84), (1, zr 10)] [] zSh (zcp (zcp (zcp (zcp (zcp (zcp (zcp (zcp (zup (zup μ 84 0 (μ 10 0)) 84 1 (μ 10 1)) 85 11) 86 12) 87 13) 88 14) 89 15) 90 16) 91 17) 92 18) _ _ _ from ?_)
  exact Ez.vret kr_2_copyTaleFrom_104 rfl (Nat.zero_le _) (Nat.zero_le _) rfl rfl
set_option maxRecDepth 100000 in
theorem zsm_77_3 (μ : zM) : zsm zSh (zup (zup (zcp (zcp (zcp (zcp (zcp (zcp (zcp (zcp (zcp (zcp (zup (zup (zcp (zcp (zcp (zcp (zcp (zup μ 78 0 (μ 4 0)) 79 5) 80 6) 81 7) 82 8) 83 9) 84 0 (μ 10 0)) 84 1 (μ 10 1)) 85 11) 86 12) 87 13) 88 14) 89 15) 90 16) 91 17) 92 18) 93 19) 94 20) 77 4 (μ 3 4)) 77 5 (μ 3 5)) (zcs μ 77 3) := by
  intro k sp hk
  by_cases e : k < 77 ∨ 95 ≤ k
  · have e1 : (zup (zup (zcp (zcp (zcp (zcp (zcp (zcp (zcp (zcp (zcp (zcp (zup (zup (zcp (zcp (zcp (zcp (zcp (zup μ 78 0 (μ 4 0)) 79 5) 80 6) 81 7) 82 8) 83 9) 84 0 (μ 10 0)) 84 1 (μ 10 1)) 85 11) 86 12) 87 13) 88 14) 89 15) 90 16) 91 17) 92 18) 93 19) 94 20) 77 4 (μ 3 4)) 77 5 (μ 3 5)) k = μ k := by
      rw [zup_ne (by omega), zup_ne (by omega), zcp_ne (by omega), zcp_ne (by omega), zcp_ne (by omega), zcp_ne (by omega), zcp_ne (by omega), zcp_ne (by omega), zcp_ne (by omega), zcp_ne (by omega), zcp_ne (by omega), zcp_ne (by omega), zup_ne (by omega), zup_ne (by omega), zcp_ne (by omega), zcp_ne (by omega), zcp_ne (by omega), zcp_ne (by omega), zcp_ne (by omega), zup_ne (by omega)]
    have e2 : zcs μ 77 3 k = μ k := zcs_ne (by omega)
    rcases sp with p | p
    · intro j _; rw [e1, e2]
    · show _ = _; rw [e1, e2]
  · obtain ⟨o, ho, rfl⟩ : ∃ o, o < 18 ∧ k = 77 + o := ⟨k - 77, by omega, by omega⟩
    match o, ho with
    | 0, _ =>
      obtain rfl : (Sum.inl (1, [some (some 78), some (some 84), some (some 93), some (some 94), none, none]) : zS) = sp := Option.some.inj hk
      intro j hj
      match j, hj with
      | 0, h => exact absurd h (by decide)
      | 1, h => exact absurd h (by decide)
      | 2, h => exact absurd h (by decide)
      | 3, h => exact absurd h (by decide)
      | 4, _ => exact (rfl : (zup (zup (zcp (zcp (zcp (zcp (zcp (zcp (zcp (zcp (zcp (zcp (zup (zup (zcp (zcp (zcp (zcp (zcp (zup μ 78 0 (μ 4 0)) 79 5) 80 6) 81 7) 82 8) 83 9) 84 0 (μ 10 0)) 84 1 (μ 10 1)) 85 11) 86 12) 87 13) 88 14) 89 15) 90 16) 91 17) 92 18) 93 19) 94 20) 77 4 (μ 3 4)) 77 5 (μ 3 5)) 77 4 = zcs μ 77 3 77 4)
      | 5, _ => exact (rfl : (zup (zup (zcp (zcp (zcp (zcp (zcp (zcp (zcp (zcp (zcp (zcp (zup (zup (zcp (zcp (zcp (zcp (zcp (zup μ 78 0 (μ 4 0)) 79 5) 80 6) 81 7) 82 8) 83 9) 84 0 (μ 10 0)) 84 1 (μ 10 1)) 85 11) 86 12) 87 13) 88 14) 89 15) 90 16) 91 17) 92 18) 93 19) 94 20) 77 4 (μ 3 4)) 77 5 (μ 3 5)) 77 5 = zcs μ 77 3 77 5)
      | j + 6, h => simp at h
    | 1, _ =>
      obtain rfl : (Sum.inl (4, [none, some (some 79), some (some 80), some (some 81), some (some 82), some (some 83)]) : zS) = sp := Option.some.inj hk
      intro j hj
      match j, hj with
      | 0, _ => exact (rfl : (zup (zup (zcp (zcp (zcp (zcp (zcp (zcp (zcp (zcp (zcp (zcp (zup (zup (zcp (zcp (zcp (zcp (zcp (zup μ 78 0 (μ 4 0)) 79 5) 80 6) 81 7) 82 8) 83 9) 84 0 (μ 10 0)) 84 1 (μ 10 1)) 85 11) 86 12) 87 13) 88 14) 89 15) 90 16) 91 17) 92 18) 93 19) 94 20) 77 4 (μ 3 4)) 77 5 (μ 3 5)) 78 0 = zcs μ 77 3 78 0)
      | 1, h => exact absurd h (by decide)
      | 2, h => exact absurd h (by decide)
      | 3, h => exact absurd h (by decide)
      | 4, h => exact absurd h (by decide)
      | 5, h => exact absurd h (by decide)
      | j + 6, h => simp at h
    | 2, _ =>
      obtain rfl : (Sum.inr (0, 24) : zS) = sp := Option.some.inj hk
      exact (rfl : (zup (zup (zcp (zcp (zcp (zcp (zcp (zcp (zcp (zcp (zcp (zcp (zup (zup (zcp (zcp (zcp (zcp (zcp (zup μ 78 0 (μ 4 0)) 79 5) 80 6) 81 7) 82 8) 83 9) 84 0 (μ 10 0)) 84 1 (μ 10 1)) 85 11) 86 12) 87 13) 88 14) 89 15) 90 16) 91 17) 92 18) 93 19) 94 20) 77 4 (μ 3 4)) 77 5 (μ 3 5)) 79 = zcs μ 77 3 79)
    | 3, _ =>
      obtain rfl : (Sum.inr (0, 24) : zS) = sp := Option.some.inj hk
      exact (rfl : (zup (zup (zcp (zcp (zcp (zcp (zcp (zcp (zcp (zcp (zcp (zcp (zup (zup (zcp (zcp (zcp (zcp (zcp (zup μ 78 0 (μ 4 0)) 79 5) 80 6) 81 7) 82 8) 83 9) 84 0 (μ 10 0)) 84 1 (μ 10 1)) 85 11) 86 12) 87 13) 88 14) 89 15) 90 16) 91 17) 92 18) 93 19) 94 20) 77 4 (μ 3 4)) 77 5 (μ 3 5)) 80 = zcs μ 77 3 80)
    | 4, _ =>
      obtain rfl : (Sum.inr (0, 24) : zS) = sp := Option.some.inj hk
      exact (rfl : (zup (zup (zcp (zcp (zcp (zcp (zcp (zcp (zcp (zcp (zcp (zcp (zup (zup (zcp (zcp (zcp (zcp (zcp (zup μ 78 0 (μ 4 0)) 79 5) 80 6) 81 7) 82 8) 83 9) 84 0 (μ 10 0)) 84 1 (μ 10 1)) 85 11) 86 12) 87 13) 88 14) 89 15) 90 16) 91 17) 92 18) 93 19) 94 20) 77 4 (μ 3 4)) 77 5 (μ 3 5)) 81 = zcs μ 77 3 81)
    | 5, _ =>
      obtain rfl : (Sum.inr (0, 192) : zS) = sp := Option.some.inj hk
      exact (rfl : (zup (zup (zcp (zcp (zcp (zcp (zcp (zcp (zcp (zcp (zcp (zcp (zup (zup (zcp (zcp (zcp (zcp (zcp (zup μ 78 0 (μ 4 0)) 79 5) 80 6) 81 7) 82 8) 83 9) 84 0 (μ 10 0)) 84 1 (μ 10 1)) 85 11) 86 12) 87 13) 88 14) 89 15) 90 16) 91 17) 92 18) 93 19) 94 20) 77 4 (μ 3 4)) 77 5 (μ 3 5)) 82 = zcs μ 77 3 82)
    | 6, _ =>
      obtain rfl : (Sum.inr (0, 18) : zS) = sp := Option.some.inj hk
      exact (rfl : (zup (zup (zcp (zcp (zcp (zcp (zcp (zcp (zcp (zcp (zcp (zcp (zup (zup (zcp (zcp (zcp (zcp (zcp (zup μ 78 0 (μ 4 0)) 79 5) 80 6) 81 7) 82 8) 83 9) 84 0 (μ 10 0)) 84 1 (μ 10 1)) 85 11) 86 12) 87 13) 88 14) 89 15) 90 16) 91 17) 92 18) 93 19) 94 20) 77 4 (μ 3 4)) 77 5 (μ 3 5)) 83 = zcs μ 77 3 83)
    | 7, _ =>
      obtain rfl : (Sum.inl (2, [none, none, some (some 85), some (some 86), some (some 87), some (some 88), some (some 89), some (some 90), some (some 91), some (some 92)]) : zS) = sp := Option.some.inj hk
      intro j hj
      match j, hj with
      | 0, _ => exact (rfl : (zup (zup (zcp (zcp (zcp (zcp (zcp (zcp (zcp (zcp (zcp (zcp (zup (zup (zcp (zcp (zcp (zcp (zcp (zup μ 78 0 (μ 4 0)) 79 5) 80 6) 81 7) 82 8) 83 9) 84 0 (μ 10 0)) 84 1 (μ 10 1)) 85 11) 86 12) 87 13) 88 14) 89 15) 90 16) 91 17) 92 18) 93 19) 94 20) 77 4 (μ 3 4)) 77 5 (μ 3 5)) 84 0 = zcs μ 77 3 84 0)
      | 1, _ => exact (rfl : (zup (zup (zcp (zcp (zcp (zcp (zcp (zcp (zcp (zcp (zcp (zcp (zup (zup (zcp (zcp (zcp (zcp (zcp (zup μ 78 0 (μ 4 0)) 79 5) 80 6) 81 7) 82 8) 83 9) 84 0 (μ 10 0)) 84 1 (μ 10 1)) 85 11) 86 12) 87 13) 88 14) 89 15) 90 16) 91 17) 92 18) 93 19) 94 20) 77 4 (μ 3 4)) 77 5 (μ 3 5)) 84 1 = zcs μ 77 3 84 1)
      | 2, h => exact absurd h (by decide)
      | 3, h => exact absurd h (by decide)
      | 4, h => exact absurd h (by decide)
      | 5, h => exact absurd h (by decide)
      | 6, h => exact absurd h (by decide)
      | 7, h => exact absurd h (by decide)
      | 8, h => exact absurd h (by decide)
      | 9, h => exact absurd h (by decide)
      | j + 10, h => simp at h
    | 8, _ =>
      obtain rfl : (Sum.inr (0, 20) : zS) = sp := Option.some.inj hk
      exact (rfl : (zup (zup (zcp (zcp (zcp (zcp (zcp (zcp (zcp (zcp (zcp (zcp (zup (zup (zcp (zcp (zcp (zcp (zcp (zup μ 78 0 (μ 4 0)) 79 5) 80 6) 81 7) 82 8) 83 9) 84 0 (μ 10 0)) 84 1 (μ 10 1)) 85 11) 86 12) 87 13) 88 14) 89 15) 90 16) 91 17) 92 18) 93 19) 94 20) 77 4 (μ 3 4)) 77 5 (μ 3 5)) 85 = zcs μ 77 3 85)
    | 9, _ =>
      obtain rfl : (Sum.inr (0, 20) : zS) = sp := Option.some.inj hk
      exact (rfl : (zup (zup (zcp (zcp (zcp (zcp (zcp (zcp (zcp (zcp (zcp (zcp (zup (zup (zcp (zcp (zcp (zcp (zcp (zup μ 78 0 (μ 4 0)) 79 5) 80 6) 81 7) 82 8) 83 9) 84 0 (μ 10 0)) 84 1 (μ 10 1)) 85 11) 86 12) 87 13) 88 14) 89 15) 90 16) 91 17) 92 18) 93 19) 94 20) 77 4 (μ 3 4)) 77 5 (μ 3 5)) 86 = zcs μ 77 3 86)
    | 10, _ =>
      obtain rfl : (Sum.inr (0, 20) : zS) = sp := Option.some.inj hk
      exact (rfl : (zup (zup (zcp (zcp (zcp (zcp (zcp (zcp (zcp (zcp (zcp (zcp (zup (zup (zcp (zcp (zcp (zcp (zcp (zup μ 78 0 (μ 4 0)) 79 5) 80 6) 81 7) 82 8) 83 9) 84 0 (μ 10 0)) 84 1 (μ 10 1)) 85 11) 86 12) 87 13) 88 14) 89 15) 90 16) 91 17) 92 18) 93 19) 94 20) 77 4 (μ 3 4)) 77 5 (μ 3 5)) 87 = zcs μ 77 3 87)
    | 11, _ =>
      obtain rfl : (Sum.inr (0, 60) : zS) = sp := Option.some.inj hk
      exact (rfl : (zup (zup (zcp (zcp (zcp (zcp (zcp (zcp (zcp (zcp (zcp (zcp (zup (zup (zcp (zcp (zcp (zcp (zcp (zup μ 78 0 (μ 4 0)) 79 5) 80 6) 81 7) 82 8) 83 9) 84 0 (μ 10 0)) 84 1 (μ 10 1)) 85 11) 86 12) 87 13) 88 14) 89 15) 90 16) 91 17) 92 18) 93 19) 94 20) 77 4 (μ 3 4)) 77 5 (μ 3 5)) 88 = zcs μ 77 3 88)
    | 12, _ =>
      obtain rfl : (Sum.inr (0, 20) : zS) = sp := Option.some.inj hk
      exact (rfl : (zup (zup (zcp (zcp (zcp (zcp (zcp (zcp (zcp (zcp (zcp (zcp (zup (zup (zcp (zcp (zcp (zcp (zcp (zup μ 78 0 (μ 4 0)) 79 5) 80 6) 81 7) 82 8) 83 9) 84 0 (μ 10 0)) 84 1 (μ 10 1)) 85 11) 86 12) 87 13) 88 14) 89 15) 90 16) 91 17) 92 18) 93 19) 94 20) 77 4 (μ 3 4)) 77 5 (μ 3 5)) 89 = zcs μ 77 3 89)
    | 13, _ =>
      obtain rfl : (Sum.inr (0, 20) : zS) = sp := Option.some.inj hk
      exact (rfl : (zup (zup (zcp (zcp (zcp (zcp (zcp (zcp (zcp (zcp (zcp (zcp (zup (zup (zcp (zcp (zcp (zcp (zcp (zup μ 78 0 (μ 4 0)) 79 5) 80 6) 81 7) 82 8) 83 9) 84 0 (μ 10 0)) 84 1 (μ 10 1)) 85 11) 86 12) 87 13) 88 14) 89 15) 90 16) 91 17) 92 18) 93 19) 94 20) 77 4 (μ 3 4)) 77 5 (μ 3 5)) 90 = zcs μ 77 3 90)
    | 14, _ =>
      obtain rfl : (Sum.inr (0, 20) : zS) = sp := Option.some.inj hk
      exact (rfl : (zup (zup (zcp (zcp (zcp (zcp (zcp (zcp (zcp (zcp (zcp (zcp (zup (zup (zcp (zcp (zcp (zcp (zcp (zup μ 78 0 (μ 4 0)) 79 5) 80 6) 81 7) 82 8) 83 9) 84 0 (μ 10 0)) 84 1 (μ 10 1)) 85 11) 86 12) 87 13) 88 14) 89 15) 90 16) 91 17) 92 18) 93 19) 94 20) 77 4 (μ 3 4)) 77 5 (μ 3 5)) 91 = zcs μ 77 3 91)
    | 15, _ =>
      obtain rfl : (Sum.inr (0, 20) : zS) = sp := Option.some.inj hk
      exact (rfl : (zup (zup (zcp (zcp (zcp (zcp (zcp (zcp (zcp (zcp (zcp (zcp (zup (zup (zcp (zcp (zcp (zcp (zcp (zup μ 78 0 (μ 4 0)) 79 5) 80 6) 81 7) 82 8) 83 9) 84 0 (μ 10 0)) 84 1 (μ 10 1)) 85 11) 86 12) 87 13) 88 14) 89 15) 90 16) 91 17) 92 18) 93 19) 94 20) 77 4 (μ 3 4)) 77 5 (μ 3 5)) 92 = zcs μ 77 3 92)
    | 16, _ =>
      obtain rfl : (Sum.inr (0, 10) : zS) = sp := Option.some.inj hk
      exact (rfl : (zup (zup (zcp (zcp (zcp (zcp (zcp (zcp (zcp (zcp (zcp (zcp (zup (zup (zcp (zcp (zcp (zcp (zcp (zup μ 78 0 (μ 4 0)) 79 5) 80 6) 81 7) 82 8) 83 9) 84 0 (μ 10 0)) 84 1 (μ 10 1)) 85 11) 86 12) 87 13) 88 14) 89 15) 90 16) 91 17) 92 18) 93 19) 94 20) 77 4 (μ 3 4)) 77 5 (μ 3 5)) 93 = zcs μ 77 3 93)
    | 17, _ =>
      obtain rfl : (Sum.inr (0, 10) : zS) = sp := Option.some.inj hk
      exact (rfl : (zup (zup (zcp (zcp (zcp (zcp (zcp (zcp (zcp (zcp (zcp (zcp (zup (zup (zcp (zcp (zcp (zcp (zcp (zup μ 78 0 (μ 4 0)) 79 5) 80 6) 81 7) 82 8) 83 9) 84 0 (μ 10 0)) 84 1 (μ 10 1)) 85 11) 86 12) 87 13) 88 14) 89 15) 90 16) 91 17) 92 18) 93 19) 94 20) 77 4 (μ 3 4)) 77 5 (μ 3 5)) 94 = zcs μ 77 3 94)
    | o + 18, h => omega
set_option maxHeartbeats 4000000 in
set_option maxRecDepth 100000 in
theorem xz_copyFrom_77_3 {μ : zM} : Dz md_1_copyFrom [zr 77, zr 3] zSh μ none zSh (zcs μ 77 3) := by
  refine Dz.of (by decide) rfl rfl (show Ez md_1_copyFrom 0 0 0 [(0, zr 77), (1, zr 3)] [] zSh μ none zSh (zcs μ 77 3) from ?_)
  refine Az.blk kd_1_copyFrom_0 (show Ez md_1_copyFrom 0 0 8 [(0, zr 77), (1, zr 3)] [zr 4, zr 78] zSh μ _ _ _ from ?_)
  refine Az.cVN (mc := md_4_copyWordsFrom) (k := 78) (n := 1) (As := [zr 4]) (rest := []) kr_1_copyFrom_8 zw_263 ok_4_copyWordsFrom rfl rfl rfl trivial (xz_copyWordsFrom_78_4) rfl rfl (show Ez md_1_copyFrom 0 0 11 [(0, zr 77), (1, zr 3)] [] zSh (zcp (zcp (zcp (zcp (zcp (zup μ 78 0 (μ 4 0)) 79 5) 80 6) 81 7) 82 8) 83 9) _ _ _ from ?_)
  refine Az.blk kd_1_copyFrom_11 (show Ez md_1_copyFrom 0 0 19 [(0, zr 77), (1, zr 3)] [zr 10, zr 84] zSh (zcp (zcp (zcp (zcp (zcp (zup μ 78 0 (μ 4 0)) 79 5) 80 6) 81 7) 82 8) 83 9) _ _ _ from ?_)
  refine Az.cVN (mc := md_2_copyTaleFrom) (k := 84) (n := 1) (As := [zr 10]) (rest := []) kr_1_copyFrom_19 zw_276 ok_2_copyTaleFrom rfl rfl rfl trivial (xz_copyTaleFrom_84_10) rfl rfl (show Ez md_1_copyFrom 0 0 22 [(0, zr 77), (1, zr 3)] [] zSh (zcp (zcp (zcp (zcp (zcp (zcp (zcp (zcp (zup (zup (zcp (zcp (zcp (zcp (zcp (zup μ 78 0 (μ 4 0)) 79 5) 80 6) 81 7) 82 8) 83 9) 84 0 (μ 10 0)) 84 1 (μ 10 1)) 85 11) 86 12) 87 13) 88 14) 89 15) 90 16) 91 17) 92 18) _ _ _ from ?_)
  refine Az.blk kd_1_copyFrom_22 (show Ez md_1_copyFrom 0 0 30 [(0, zr 77), (1, zr 3)] [zr 93, zr 19] zSh (zcp (zcp (zcp (zcp (zcp (zcp (zcp (zcp (zup (zup (zcp (zcp (zcp (zcp (zcp (zup μ 78 0 (μ 4 0)) 79 5) 80 6) 81 7) 82 8) 83 9) 84 0 (μ 10 0)) 84 1 (μ 10 1)) 85 11) 86 12) 87 13) 88 14) 89 15) 90 16) 91 17) 92 18) _ _ _ from ?_)
  refine Az.cSN (mc := md_5_copyRow) (n := 2) (As := [zr 19, zr 93]) (rest := []) kr_1_copyFrom_30 zw_281 ok_5_copyRow rfl rfl (xz_copyRow 19 93 10 rfl rfl (by decide)) rfl rfl (show Ez md_1_copyFrom 0 0 33 [(0, zr 77), (1, zr 3)] [] zSh (zcp (zcp (zcp (zcp (zcp (zcp (zcp (zcp (zcp (zup (zup (zcp (zcp (zcp (zcp (zcp (zup μ 78 0 (μ 4 0)) 79 5) 80 6) 81 7) 82 8) 83 9) 84 0 (μ 10 0)) 84 1 (μ 10 1)) 85 11) 86 12) 87 13) 88 14) 89 15) 90 16) 91 17) 92 18) 93 19) _ _ _ from ?_)
  refine Az.blk kd_1_copyFrom_33 (show Ez md_1_copyFrom 0 0 41 [(0, zr 77), (1, zr 3)] [zr 94, zr 20] zSh (zcp (zcp (zcp (zcp (zcp (zcp (zcp (zcp (zcp (zup (zup (zcp (zcp (zcp (zcp (zcp (zup μ 78 0 (μ 4 0)) 79 5) 80 6) 81 7) 82 8) 83 9) 84 0 (μ 10 0)) 84 1 (μ 10 1)) 85 11) 86 12) 87 13) 88 14) 89 15) 90 16) 91 17) 92 18) 93 19) _ _ _ from ?_)
  refine Az.cSN (mc := md_5_copyRow) (n := 2) (As := [zr 20, zr 94]) (rest := []) kr_1_copyFrom_41 zw_281 ok_5_copyRow rfl rfl (xz_copyRow 20 94 10 rfl rfl (by decide)) rfl rfl (show Ez md_1_copyFrom 0 0 44 [(0, zr 77), (1, zr 3)] [] zSh (zcp (zcp (zcp (zcp (zcp (zcp (zcp (zcp (zcp (zcp (zup (zup (zcp (zcp (zcp (zcp (zcp (zup μ 78 0 (μ 4 0)) 79 5) 80 6) 81 7) 82 8) 83 9) 84 0 (μ 10 0)) 84 1 (μ 10 1)) 85 11) 86 12) 87 13) 88 14) 89 15) 90 16) 91 17) 92 18) 93 19) 94 20) _ _ _ from ?_)
  refine Az.blk kd_1_copyFrom_44 (show Ez md_1_copyFrom 0 0 60 [(0, zr 77), (1, zr 3)] [] zSh (zup (zup (zcp (zcp (zcp (zcp (zcp (zcp (zcp (zcp (zcp (zcp (zup (zup (zcp (zcp (zcp (zcp (zcp (zup μ 78 0 (μ 4 0)) 79 5) 80 6) 81 7) 82 8) 83 9) 84 0 (μ 10 0)) 84 1 (μ 10 1)) 85 11) 86 12) 87 13) 88 14) 89 15) 90 16) 91 17) 92 18) 93 19) 94 20) 77 4 (μ 3 4)) 77 5 (μ 3 5)) _ _ _ from ?_)
  refine Az.mem (μ' := zcs μ 77 3) (fun G k sp H hk h => by rw [← zsm_cell (zsm_77_3 μ) hk]; exact h) ?_
  exact Ez.vret kr_1_copyFrom_60 rfl (Nat.zero_le _) (Nat.zero_le _) rfl rfl
set_option maxHeartbeats 4000000 in
set_option maxRecDepth 100000 in
theorem xz_copyWordsFrom_96_4 {μ : zM} : Dz md_4_copyWordsFrom [zr 96, zr 4] zSh μ none zSh (zcp (zcp (zcp (zcp (zcp (zup μ 96 0 (μ 4 0)) 97 5) 98 6) 99 7) 100 8) 101 9) := by
  refine Dz.of (by decide) rfl rfl (show Ez md_4_copyWordsFrom 0 0 0 [(0, zr 96), (1, zr 4)] [] zSh μ none zSh (zcp (zcp (zcp (zcp (zcp (zup μ 96 0 (μ 4 0)) 97 5) 98 6) 99 7) 100 8) 101 9) from ?_)
  refine Az.blk kd_4_copyWordsFrom_0 (show Ez md_4_copyWordsFrom 0 0 16 [(0, zr 96), (1, zr 4)] [zr 97, zr 5] zSh (zup μ 96 0 (μ 4 0)) _ _ _ from ?_)
  refine Az.cSN (mc := md_5_copyRow) (n := 2) (As := [zr 5, zr 97]) (rest := []) kr_4_copyWordsFrom_16 zw_267 ok_5_copyRow rfl rfl (xz_copyRow 5 97 24 rfl rfl (by decide)) rfl rfl (show Ez md_4_copyWordsFrom 0 0 19 [(0, zr 96), (1, zr 4)] [] zSh (zcp (zup μ 96 0 (μ 4 0)) 97 5) _ _ _ from ?_)
  refine Az.blk kd_4_copyWordsFrom_19 (show Ez md_4_copyWordsFrom 0 0 27 [(0, zr 96), (1, zr 4)] [zr 98, zr 6] zSh (zcp (zup μ 96 0 (μ 4 0)) 97 5) _ _ _ from ?_)
  refine Az.cSN (mc := md_5_copyRow) (n := 2) (As := [zr 6, zr 98]) (rest := []) kr_4_copyWordsFrom_27 zw_267 ok_5_copyRow rfl rfl (xz_copyRow 6 98 24 rfl rfl (by decide)) rfl rfl (show Ez md_4_copyWordsFrom 0 0 30 [(0, zr 96), (1, zr 4)] [] zSh (zcp (zcp (zup μ 96 0 (μ 4 0)) 97 5) 98 6) _ _ _ from ?_)
  refine Az.blk kd_4_copyWordsFrom_30 (show Ez md_4_copyWordsFrom 0 0 38 [(0, zr 96), (1, zr 4)] [zr 99, zr 7] zSh (zcp (zcp (zup μ 96 0 (μ 4 0)) 97 5) 98 6) _ _ _ from ?_)
  refine Az.cSN (mc := md_5_copyRow) (n := 2) (As := [zr 7, zr 99]) (rest := []) kr_4_copyWordsFrom_38 zw_267 ok_5_copyRow rfl rfl (xz_copyRow 7 99 24 rfl rfl (by decide)) rfl rfl (show Ez md_4_copyWordsFrom 0 0 41 [(0, zr 96), (1, zr 4)] [] zSh (zcp (zcp (zcp (zup μ 96 0 (μ 4 0)) 97 5) 98 6) 99 7) _ _ _ from ?_)
  refine Az.blk kd_4_copyWordsFrom_41 (show Ez md_4_copyWordsFrom 0 0 49 [(0, zr 96), (1, zr 4)] [zr 100, zr 8] zSh (zcp (zcp (zcp (zup μ 96 0 (μ 4 0)) 97 5) 98 6) 99 7) _ _ _ from ?_)
  refine Az.cSN (mc := md_5_copyRow) (n := 2) (As := [zr 8, zr 100]) (rest := []) kr_4_copyWordsFrom_49 zw_267 ok_5_copyRow rfl rfl (xz_copyRow 8 100 192 rfl rfl (by decide)) rfl rfl (show Ez md_4_copyWordsFrom 0 0 52 [(0, zr 96), (1, zr 4)] [] zSh (zcp (zcp (zcp (zcp (zup μ 96 0 (μ 4 0)) 97 5) 98 6) 99 7) 100 8) _ _ _ from ?_)
  refine Az.blk kd_4_copyWordsFrom_52 (show Ez md_4_copyWordsFrom 0 0 60 [(0, zr 96), (1, zr 4)] [zr 101, zr 9] zSh (zcp (zcp (zcp (zcp (zup μ 96 0 (μ 4 0)) 97 5) 98 6) 99 7) 100 8) _ _ _ from ?_)
  refine Az.cSN (mc := md_5_copyRow) (n := 2) (As := [zr 9, zr 101]) (rest := []) kr_4_copyWordsFrom_60 zw_267 ok_5_copyRow rfl rfl (xz_copyRow 9 101 18 rfl rfl (by decide)) rfl rfl (show Ez md_4_copyWordsFrom 0 0 63 [(0, zr 96), (1, zr 4)] [] zSh (zcp (zcp (zcp (zcp (zcp (zup μ 96 0 (μ 4 0)) 97 5) 98 6) 99 7) 100 8) 101 9) _ _ _ from ?_)
  exact Ez.vret kr_4_copyWordsFrom_63 rfl (Nat.zero_le _) (Nat.zero_le _) rfl rfl
set_option maxHeartbeats 4000000 in
set_option maxRecDepth 100000 in
theorem xz_copyTaleFrom_102_10 {μ : zM} : Dz md_2_copyTaleFrom [zr 102, zr 10] zSh μ none zSh (zcp (zcp (zcp (zcp (zcp (zcp (zcp (zcp (zup (zup μ 102 0 (μ 10 0)) 102 1 (μ 10 1)) 103 11) 104 12) 105 13) 106 14) 107 15) 108 16) 109 17) 110 18) := by
  refine Dz.of (by decide) rfl rfl (show Ez md_2_copyTaleFrom 0 0 0 [(0, zr 102), (1, zr 10)] [] zSh μ none zSh (zcp (zcp (zcp (zcp (zcp (zcp (zcp (zcp (zup (zup μ 102 0 (μ 10 0)) 102 1 (μ 10 1)) 103 11) 104 12) 105 13) 106 14) 107 15) 108 16) 109 17) 110 18) from ?_)
  refine Az.blk kd_2_copyTaleFrom_0 (show Ez md_2_copyTaleFrom 0 0 24 [(0, zr 102), (1, zr 10)] [zr 103, zr 11] zSh (zup (zup μ 102 0 (μ 10 0)) 102 1 (μ 10 1)) _ _ _ from ?_)
  refine Az.cSN (mc := md_5_copyRow) (n := 2) (As := [zr 11, zr 103]) (rest := []) kr_2_copyTaleFrom_24 zw_280 ok_5_copyRow rfl rfl (xz_copyRow 11 103 20 rfl rfl (by decide)) rfl rfl (show Ez md_2_copyTaleFrom 0 0 27 [(0, zr 102), (1, zr 10)] [] zSh (zcp (zup (zup μ 102 0 (μ 10 0)) 102 1 (μ 10 1)) 103 11) _ _ _ from ?_)
  refine Az.blk kd_2_copyTaleFrom_27 (show Ez md_2_copyTaleFrom 0 0 35 [(0, zr 102), (1, zr 10)] [zr 104, zr 12] zSh (zcp (zup (zup μ 102 0 (μ 10 0)) 102 1 (μ 10 1)) 103 11) _ _ _ from ?_)
  refine Az.cSN (mc := md_5_copyRow) (n := 2) (As := [zr 12, zr 104]) (rest := []) kr_2_copyTaleFrom_35 zw_280 ok_5_copyRow rfl rfl (xz_copyRow 12 104 20 rfl rfl (by decide)) rfl rfl (show Ez md_2_copyTaleFrom 0 0 38 [(0, zr 102), (1, zr 10)] [] zSh (zcp (zcp (zup (zup μ 102 0 (μ 10 0)) 102 1 (μ 10 1)) 103 11) 104 12) _ _ _ from ?_)
  refine Az.blk kd_2_copyTaleFrom_38 (show Ez md_2_copyTaleFrom 0 0 46 [(0, zr 102), (1, zr 10)] [zr 105, zr 13] zSh (zcp (zcp (zup (zup μ 102 0 (μ 10 0)) 102 1 (μ 10 1)) 103 11) 104 12) _ _ _ from ?_)
  refine Az.cSN (mc := md_5_copyRow) (n := 2) (As := [zr 13, zr 105]) (rest := []) kr_2_copyTaleFrom_46 zw_280 ok_5_copyRow rfl rfl (xz_copyRow 13 105 20 rfl rfl (by decide)) rfl rfl (show Ez md_2_copyTaleFrom 0 0 49 [(0, zr 102), (1, zr 10)] [] zSh (zcp (zcp (zcp (zup (zup μ 102 0 (μ 10 0)) 102 1 (μ 10 1)) 103 11) 104 12) 105 13) _ _ _ from ?_)
  refine Az.blk kd_2_copyTaleFrom_49 (show Ez md_2_copyTaleFrom 0 0 57 [(0, zr 102), (1, zr 10)] [zr 106, zr 14] zSh (zcp (zcp (zcp (zup (zup μ 102 0 (μ 10 0)) 102 1 (μ 10 1)) 103 11) 104 12) 105 13) _ _ _ from ?_)
  refine Az.cSN (mc := md_5_copyRow) (n := 2) (As := [zr 14, zr 106]) (rest := []) kr_2_copyTaleFrom_57 zw_280 ok_5_copyRow rfl rfl (xz_copyRow 14 106 60 rfl rfl (by decide)) rfl rfl (show Ez md_2_copyTaleFrom 0 0 60 [(0, zr 102), (1, zr 10)] [] zSh (zcp (zcp (zcp (zcp (zup (zup μ 102 0 (μ 10 0)) 102 1 (μ 10 1)) 103 11) 104 12) 105 13) 106 14) _ _ _ from ?_)
  refine Az.blk kd_2_copyTaleFrom_60 (show Ez md_2_copyTaleFrom 0 0 68 [(0, zr 102), (1, zr 10)] [zr 107, zr 15] zSh (zcp (zcp (zcp (zcp (zup (zup μ 102 0 (μ 10 0)) 102 1 (μ 10 1)) 103 11) 104 12) 105 13) 106 14) _ _ _ from ?_)
  refine Az.cSN (mc := md_5_copyRow) (n := 2) (As := [zr 15, zr 107]) (rest := []) kr_2_copyTaleFrom_68 zw_280 ok_5_copyRow rfl rfl (xz_copyRow 15 107 20 rfl rfl (by decide)) rfl rfl (show Ez md_2_copyTaleFrom 0 0 71 [(0, zr 102), (1, zr 10)] [] zSh (zcp (zcp (zcp (zcp (zcp (zup (zup μ 102 0 (μ 10 0)) 102 1 (μ 10 1)) 103 11) 104 12) 105 13) 106 14) 107 15) _ _ _ from ?_)
  refine Az.blk kd_2_copyTaleFrom_71 (show Ez md_2_copyTaleFrom 0 0 79 [(0, zr 102), (1, zr 10)] [zr 108, zr 16] zSh (zcp (zcp (zcp (zcp (zcp (zup (zup μ 102 0 (μ 10 0)) 102 1 (μ 10 1)) 103 11) 104 12) 105 13) 106 14) 107 15) _ _ _ from ?_)
  refine Az.cSN (mc := md_5_copyRow) (n := 2) (As := [zr 16, zr 108]) (rest := []) kr_2_copyTaleFrom_79 zw_280 ok_5_copyRow rfl rfl (xz_copyRow 16 108 20 rfl rfl (by decide)) rfl rfl (show Ez md_2_copyTaleFrom 0 0 82 [(0, zr 102), (1, zr 10)] [] zSh (zcp (zcp (zcp (zcp (zcp (zcp (zup (zup μ 102 0 (μ 10 0)) 102 1 (μ 10 1)) 103 11) 104 12) 105 13) 106 14) 107 15) 108 16) _ _ _ from ?_)
  refine Az.blk kd_2_copyTaleFrom_82 (show Ez md_2_copyTaleFrom 0 0 90 [(0, zr 102), (1, zr 10)] [zr 109, zr 17] zSh (zcp (zcp (zcp (zcp (zcp (zcp (zup (zup μ 102 0 (μ 10 0)) 102 1 (μ 10 1)) 103 11) 104 12) 105 13) 106 14) 107 15) 108 16) _ _ _ from ?_)
  refine Az.cSN (mc := md_5_copyRow) (n := 2) (As := [zr 17, zr 109]) (rest := []) kr_2_copyTaleFrom_90 zw_280 ok_5_copyRow rfl rfl (xz_copyRow 17 109 20 rfl rfl (by decide)) rfl rfl (show Ez md_2_copyTaleFrom 0 0 93 [(0, zr 102), (1, zr 10)] [] zSh (zcp (zcp (zcp (zcp (zcp (zcp (zcp (zup (zup μ 102 0 (μ 10 0)) 102 1 (μ 10 1)) 103 11) 104 12) 105 13) 106 14) 107 15) 108 16) 109 17) _ _ _ from ?_)
  refine Az.blk kd_2_copyTaleFrom_93 (show Ez md_2_copyTaleFrom 0 0 101 [(0, zr 102), (1, zr 10)] [zr 110, zr 18] zSh (zcp (zcp (zcp (zcp (zcp (zcp (zcp (zup (zup μ 102 0 (μ 10 0)) 102 1 (μ 10 1)) 103 11) 104 12) 105 13) 106 14) 107 15) 108 16) 109 17) _ _ _ from ?_)
  refine Az.cSN (mc := md_5_copyRow) (n := 2) (As := [zr 18, zr 110]) (rest := []) kr_2_copyTaleFrom_101 zw_280 ok_5_copyRow rfl rfl (xz_copyRow 18 110 20 rfl rfl (by decide)) rfl rfl (show Ez md_2_copyTaleFrom 0 0 104 [(0, zr 102), (1, zr 10)] [] zSh (zcp (zcp (zcp (zcp (zcp (zcp (zcp (zcp (zup (zup μ 102 0 (μ 10 0)) 102 1 (μ 10 1)) 103 11) 104 12) 105 13) 106 14) 107 15) 108 16) 109 17) 110 18) _ _ _ from ?_)
  exact Ez.vret kr_2_copyTaleFrom_104 rfl (Nat.zero_le _) (Nat.zero_le _) rfl rfl
set_option maxRecDepth 100000 in
theorem zsm_95_3 (μ : zM) : zsm zSh (zup (zup (zcp (zcp (zcp (zcp (zcp (zcp (zcp (zcp (zcp (zcp (zup (zup (zcp (zcp (zcp (zcp (zcp (zup μ 96 0 (μ 4 0)) 97 5) 98 6) 99 7) 100 8) 101 9) 102 0 (μ 10 0)) 102 1 (μ 10 1)) 103 11) 104 12) 105 13) 106 14) 107 15) 108 16) 109 17) 110 18) 111 19) 112 20) 95 4 (μ 3 4)) 95 5 (μ 3 5)) (zcs μ 95 3) := by
  intro k sp hk
  by_cases e : k < 95 ∨ 113 ≤ k
  · have e1 : (zup (zup (zcp (zcp (zcp (zcp (zcp (zcp (zcp (zcp (zcp (zcp (zup (zup (zcp (zcp (zcp (zcp (zcp (zup μ 96 0 (μ 4 0)) 97 5) 98 6) 99 7) 100 8) 101 9) 102 0 (μ 10 0)) 102 1 (μ 10 1)) 103 11) 104 12) 105 13) 106 14) 107 15) 108 16) 109 17) 110 18) 111 19) 112 20) 95 4 (μ 3 4)) 95 5 (μ 3 5)) k = μ k := by
      rw [zup_ne (by omega), zup_ne (by omega), zcp_ne (by omega), zcp_ne (by omega), zcp_ne (by omega), zcp_ne (by omega), zcp_ne (by omega), zcp_ne (by omega), zcp_ne (by omega), zcp_ne (by omega), zcp_ne (by omega), zcp_ne (by omega), zup_ne (by omega), zup_ne (by omega), zcp_ne (by omega), zcp_ne (by omega), zcp_ne (by omega), zcp_ne (by omega), zcp_ne (by omega), zup_ne (by omega)]
    have e2 : zcs μ 95 3 k = μ k := zcs_ne (by omega)
    rcases sp with p | p
    · intro j _; rw [e1, e2]
    · show _ = _; rw [e1, e2]
  · obtain ⟨o, ho, rfl⟩ : ∃ o, o < 18 ∧ k = 95 + o := ⟨k - 95, by omega, by omega⟩
    match o, ho with
    | 0, _ =>
      obtain rfl : (Sum.inl (1, [some (some 96), some (some 102), some (some 111), some (some 112), none, none]) : zS) = sp := Option.some.inj hk
      intro j hj
      match j, hj with
      | 0, h => exact absurd h (by decide)
      | 1, h => exact absurd h (by decide)
      | 2, h => exact absurd h (by decide)
      | 3, h => exact absurd h (by decide)
      | 4, _ => exact (rfl : (zup (zup (zcp (zcp (zcp (zcp (zcp (zcp (zcp (zcp (zcp (zcp (zup (zup (zcp (zcp (zcp (zcp (zcp (zup μ 96 0 (μ 4 0)) 97 5) 98 6) 99 7) 100 8) 101 9) 102 0 (μ 10 0)) 102 1 (μ 10 1)) 103 11) 104 12) 105 13) 106 14) 107 15) 108 16) 109 17) 110 18) 111 19) 112 20) 95 4 (μ 3 4)) 95 5 (μ 3 5)) 95 4 = zcs μ 95 3 95 4)
      | 5, _ => exact (rfl : (zup (zup (zcp (zcp (zcp (zcp (zcp (zcp (zcp (zcp (zcp (zcp (zup (zup (zcp (zcp (zcp (zcp (zcp (zup μ 96 0 (μ 4 0)) 97 5) 98 6) 99 7) 100 8) 101 9) 102 0 (μ 10 0)) 102 1 (μ 10 1)) 103 11) 104 12) 105 13) 106 14) 107 15) 108 16) 109 17) 110 18) 111 19) 112 20) 95 4 (μ 3 4)) 95 5 (μ 3 5)) 95 5 = zcs μ 95 3 95 5)
      | j + 6, h => simp at h
    | 1, _ =>
      obtain rfl : (Sum.inl (4, [none, some (some 97), some (some 98), some (some 99), some (some 100), some (some 101)]) : zS) = sp := Option.some.inj hk
      intro j hj
      match j, hj with
      | 0, _ => exact (rfl : (zup (zup (zcp (zcp (zcp (zcp (zcp (zcp (zcp (zcp (zcp (zcp (zup (zup (zcp (zcp (zcp (zcp (zcp (zup μ 96 0 (μ 4 0)) 97 5) 98 6) 99 7) 100 8) 101 9) 102 0 (μ 10 0)) 102 1 (μ 10 1)) 103 11) 104 12) 105 13) 106 14) 107 15) 108 16) 109 17) 110 18) 111 19) 112 20) 95 4 (μ 3 4)) 95 5 (μ 3 5)) 96 0 = zcs μ 95 3 96 0)
      | 1, h => exact absurd h (by decide)
      | 2, h => exact absurd h (by decide)
      | 3, h => exact absurd h (by decide)
      | 4, h => exact absurd h (by decide)
      | 5, h => exact absurd h (by decide)
      | j + 6, h => simp at h
    | 2, _ =>
      obtain rfl : (Sum.inr (0, 24) : zS) = sp := Option.some.inj hk
      exact (rfl : (zup (zup (zcp (zcp (zcp (zcp (zcp (zcp (zcp (zcp (zcp (zcp (zup (zup (zcp (zcp (zcp (zcp (zcp (zup μ 96 0 (μ 4 0)) 97 5) 98 6) 99 7) 100 8) 101 9) 102 0 (μ 10 0)) 102 1 (μ 10 1)) 103 11) 104 12) 105 13) 106 14) 107 15) 108 16) 109 17) 110 18) 111 19) 112 20) 95 4 (μ 3 4)) 95 5 (μ 3 5)) 97 = zcs μ 95 3 97)
    | 3, _ =>
      obtain rfl : (Sum.inr (0, 24) : zS) = sp := Option.some.inj hk
      exact (rfl : (zup (zup (zcp (zcp (zcp (zcp (zcp (zcp (zcp (zcp (zcp (zcp (zup (zup (zcp (zcp (zcp (zcp (zcp (zup μ 96 0 (μ 4 0)) 97 5) 98 6) 99 7) 100 8) 101 9) 102 0 (μ 10 0)) 102 1 (μ 10 1)) 103 11) 104 12) 105 13) 106 14) 107 15) 108 16) 109 17) 110 18) 111 19) 112 20) 95 4 (μ 3 4)) 95 5 (μ 3 5)) 98 = zcs μ 95 3 98)
    | 4, _ =>
      obtain rfl : (Sum.inr (0, 24) : zS) = sp := Option.some.inj hk
      exact (rfl : (zup (zup (zcp (zcp (zcp (zcp (zcp (zcp (zcp (zcp (zcp (zcp (zup (zup (zcp (zcp (zcp (zcp (zcp (zup μ 96 0 (μ 4 0)) 97 5) 98 6) 99 7) 100 8) 101 9) 102 0 (μ 10 0)) 102 1 (μ 10 1)) 103 11) 104 12) 105 13) 106 14) 107 15) 108 16) 109 17) 110 18) 111 19) 112 20) 95 4 (μ 3 4)) 95 5 (μ 3 5)) 99 = zcs μ 95 3 99)
    | 5, _ =>
      obtain rfl : (Sum.inr (0, 192) : zS) = sp := Option.some.inj hk
      exact (rfl : (zup (zup (zcp (zcp (zcp (zcp (zcp (zcp (zcp (zcp (zcp (zcp (zup (zup (zcp (zcp (zcp (zcp (zcp (zup μ 96 0 (μ 4 0)) 97 5) 98 6) 99 7) 100 8) 101 9) 102 0 (μ 10 0)) 102 1 (μ 10 1)) 103 11) 104 12) 105 13) 106 14) 107 15) 108 16) 109 17) 110 18) 111 19) 112 20) 95 4 (μ 3 4)) 95 5 (μ 3 5)) 100 = zcs μ 95 3 100)
    | 6, _ =>
      obtain rfl : (Sum.inr (0, 18) : zS) = sp := Option.some.inj hk
      exact (rfl : (zup (zup (zcp (zcp (zcp (zcp (zcp (zcp (zcp (zcp (zcp (zcp (zup (zup (zcp (zcp (zcp (zcp (zcp (zup μ 96 0 (μ 4 0)) 97 5) 98 6) 99 7) 100 8) 101 9) 102 0 (μ 10 0)) 102 1 (μ 10 1)) 103 11) 104 12) 105 13) 106 14) 107 15) 108 16) 109 17) 110 18) 111 19) 112 20) 95 4 (μ 3 4)) 95 5 (μ 3 5)) 101 = zcs μ 95 3 101)
    | 7, _ =>
      obtain rfl : (Sum.inl (2, [none, none, some (some 103), some (some 104), some (some 105), some (some 106), some (some 107), some (some 108), some (some 109), some (some 110)]) : zS) = sp := Option.some.inj hk
      intro j hj
      match j, hj with
      | 0, _ => exact (rfl : (zup (zup (zcp (zcp (zcp (zcp (zcp (zcp (zcp (zcp (zcp (zcp (zup (zup (zcp (zcp (zcp (zcp (zcp (zup μ 96 0 (μ 4 0)) 97 5) 98 6) 99 7) 100 8) 101 9) 102 0 (μ 10 0)) 102 1 (μ 10 1)) 103 11) 104 12) 105 13) 106 14) 107 15) 108 16) 109 17) 110 18) 111 19) 112 20) 95 4 (μ 3 4)) 95 5 (μ 3 5)) 102 0 = zcs μ 95 3 102 0)
      | 1, _ => exact (rfl : (zup (zup (zcp (zcp (zcp (zcp (zcp (zcp (zcp (zcp (zcp (zcp (zup (zup (zcp (zcp (zcp (zcp (zcp (zup μ 96 0 (μ 4 0)) 97 5) 98 6) 99 7) 100 8) 101 9) 102 0 (μ 10 0)) 102 1 (μ 10 1)) 103 11) 104 12) 105 13) 106 14) 107 15) 108 16) 109 17) 110 18) 111 19) 112 20) 95 4 (μ 3 4)) 95 5 (μ 3 5)) 102 1 = zcs μ 95 3 102 1)
      | 2, h => exact absurd h (by decide)
      | 3, h => exact absurd h (by decide)
      | 4, h => exact absurd h (by decide)
      | 5, h => exact absurd h (by decide)
      | 6, h => exact absurd h (by decide)
      | 7, h => exact absurd h (by decide)
      | 8, h => exact absurd h (by decide)
      | 9, h => exact absurd h (by decide)
      | j + 10, h => simp at h
    | 8, _ =>
      obtain rfl : (Sum.inr (0, 20) : zS) = sp := Option.some.inj hk
      exact (rfl : (zup (zup (zcp (zcp (zcp (zcp (zcp (zcp (zcp (zcp (zcp (zcp (zup (zup (zcp (zcp (zcp (zcp (zcp (zup μ 96 0 (μ 4 0)) 97 5) 98 6) 99 7) 100 8) 101 9) 102 0 (μ 10 0)) 102 1 (μ 10 1)) 103 11) 104 12) 105 13) 106 14) 107 15) 108 16) 109 17) 110 18) 111 19) 112 20) 95 4 (μ 3 4)) 95 5 (μ 3 5)) 103 = zcs μ 95 3 103)
    | 9, _ =>
      obtain rfl : (Sum.inr (0, 20) : zS) = sp := Option.some.inj hk
      exact (rfl : (zup (zup (zcp (zcp (zcp (zcp (zcp (zcp (zcp (zcp (zcp (zcp (zup (zup (zcp (zcp (zcp (zcp (zcp (zup μ 96 0 (μ 4 0)) 97 5) 98 6) 99 7) 100 8) 101 9) 102 0 (μ 10 0)) 102 1 (μ 10 1)) 103 11) 104 12) 105 13) 106 14) 107 15) 108 16) 109 17) 110 18) 111 19) 112 20) 95 4 (μ 3 4)) 95 5 (μ 3 5)) 104 = zcs μ 95 3 104)
    | 10, _ =>
      obtain rfl : (Sum.inr (0, 20) : zS) = sp := Option.some.inj hk
      exact (rfl : (zup (zup (zcp (zcp (zcp (zcp (zcp (zcp (zcp (zcp (zcp (zcp (zup (zup (zcp (zcp (zcp (zcp (zcp (zup μ 96 0 (μ 4 0)) 97 5) 98 6) 99 7) 100 8) 101 9) 102 0 (μ 10 0)) 102 1 (μ 10 1)) 103 11) 104 12) 105 13) 106 14) 107 15) 108 16) 109 17) 110 18) 111 19) 112 20) 95 4 (μ 3 4)) 95 5 (μ 3 5)) 105 = zcs μ 95 3 105)
    | 11, _ =>
      obtain rfl : (Sum.inr (0, 60) : zS) = sp := Option.some.inj hk
      exact (rfl : (zup (zup (zcp (zcp (zcp (zcp (zcp (zcp (zcp (zcp (zcp (zcp (zup (zup (zcp (zcp (zcp (zcp (zcp (zup μ 96 0 (μ 4 0)) 97 5) 98 6) 99 7) 100 8) 101 9) 102 0 (μ 10 0)) 102 1 (μ 10 1)) 103 11) 104 12) 105 13) 106 14) 107 15) 108 16) 109 17) 110 18) 111 19) 112 20) 95 4 (μ 3 4)) 95 5 (μ 3 5)) 106 = zcs μ 95 3 106)
    | 12, _ =>
      obtain rfl : (Sum.inr (0, 20) : zS) = sp := Option.some.inj hk
      exact (rfl : (zup (zup (zcp (zcp (zcp (zcp (zcp (zcp (zcp (zcp (zcp (zcp (zup (zup (zcp (zcp (zcp (zcp (zcp (zup μ 96 0 (μ 4 0)) 97 5) 98 6) 99 7) 100 8) 101 9) 102 0 (μ 10 0)) 102 1 (μ 10 1)) 103 11) 104 12) 105 13) 106 14) 107 15) 108 16) 109 17) 110 18) 111 19) 112 20) 95 4 (μ 3 4)) 95 5 (μ 3 5)) 107 = zcs μ 95 3 107)
    | 13, _ =>
      obtain rfl : (Sum.inr (0, 20) : zS) = sp := Option.some.inj hk
      exact (rfl : (zup (zup (zcp (zcp (zcp (zcp (zcp (zcp (zcp (zcp (zcp (zcp (zup (zup (zcp (zcp (zcp (zcp (zcp (zup μ 96 0 (μ 4 0)) 97 5) 98 6) 99 7) 100 8) 101 9) 102 0 (μ 10 0)) 102 1 (μ 10 1)) 103 11) 104 12) 105 13) 106 14) 107 15) 108 16) 109 17) 110 18) 111 19) 112 20) 95 4 (μ 3 4)) 95 5 (μ 3 5)) 108 = zcs μ 95 3 108)
    | 14, _ =>
      obtain rfl : (Sum.inr (0, 20) : zS) = sp := Option.some.inj hk
      exact (rfl : (zup (zup (zcp (zcp (zcp (zcp (zcp (zcp (zcp (zcp (zcp (zcp (zup (zup (zcp (zcp (zcp (zcp (zcp (zup μ 96 0 (μ 4 0)) 97 5) 98 6) 99 7) 100 8) 101 9) 102 0 (μ 10 0)) 102 1 (μ 10 1)) 103 11) 104 12) 105 13) 106 14) 107 15) 108 16) 109 17) 110 18) 111 19) 112 20) 95 4 (μ 3 4)) 95 5 (μ 3 5)) 109 = zcs μ 95 3 109)
    | 15, _ =>
      obtain rfl : (Sum.inr (0, 20) : zS) = sp := Option.some.inj hk
      exact (rfl : (zup (zup (zcp (zcp (zcp (zcp (zcp (zcp (zcp (zcp (zcp (zcp (zup (zup (zcp (zcp (zcp (zcp (zcp (zup μ 96 0 (μ 4 0)) 97 5) 98 6) 99 7) 100 8) 101 9) 102 0 (μ 10 0)) 102 1 (μ 10 1)) 103 11) 104 12) 105 13) 106 14) 107 15) 108 16) 109 17) 110 18) 111 19) 112 20) 95 4 (μ 3 4)) 95 5 (μ 3 5)) 110 = zcs μ 95 3 110)
    | 16, _ =>
      obtain rfl : (Sum.inr (0, 10) : zS) = sp := Option.some.inj hk
      exact (rfl : (zup (zup (zcp (zcp (zcp (zcp (zcp (zcp (zcp (zcp (zcp (zcp (zup (zup (zcp (zcp (zcp (zcp (zcp (zup μ 96 0 (μ 4 0)) 97 5) 98 6) 99 7) 100 8) 101 9) 102 0 (μ 10 0)) 102 1 (μ 10 1)) 103 11) 104 12) 105 13) 106 14) 107 15) 108 16) 109 17) 110 18) 111 19) 112 20) 95 4 (μ 3 4)) 95 5 (μ 3 5)) 111 = zcs μ 95 3 111)
    | 17, _ =>
      obtain rfl : (Sum.inr (0, 10) : zS) = sp := Option.some.inj hk
      exact (rfl : (zup (zup (zcp (zcp (zcp (zcp (zcp (zcp (zcp (zcp (zcp (zcp (zup (zup (zcp (zcp (zcp (zcp (zcp (zup μ 96 0 (μ 4 0)) 97 5) 98 6) 99 7) 100 8) 101 9) 102 0 (μ 10 0)) 102 1 (μ 10 1)) 103 11) 104 12) 105 13) 106 14) 107 15) 108 16) 109 17) 110 18) 111 19) 112 20) 95 4 (μ 3 4)) 95 5 (μ 3 5)) 112 = zcs μ 95 3 112)
    | o + 18, h => omega
set_option maxHeartbeats 4000000 in
set_option maxRecDepth 100000 in
theorem xz_copyFrom_95_3 {μ : zM} : Dz md_1_copyFrom [zr 95, zr 3] zSh μ none zSh (zcs μ 95 3) := by
  refine Dz.of (by decide) rfl rfl (show Ez md_1_copyFrom 0 0 0 [(0, zr 95), (1, zr 3)] [] zSh μ none zSh (zcs μ 95 3) from ?_)
  refine Az.blk kd_1_copyFrom_0 (show Ez md_1_copyFrom 0 0 8 [(0, zr 95), (1, zr 3)] [zr 4, zr 96] zSh μ _ _ _ from ?_)
  refine Az.cVN (mc := md_4_copyWordsFrom) (k := 96) (n := 1) (As := [zr 4]) (rest := []) kr_1_copyFrom_8 zw_263 ok_4_copyWordsFrom rfl rfl rfl trivial (xz_copyWordsFrom_96_4) rfl rfl (show Ez md_1_copyFrom 0 0 11 [(0, zr 95), (1, zr 3)] [] zSh (zcp (zcp (zcp (zcp (zcp (zup μ 96 0 (μ 4 0)) 97 5) 98 6) 99 7) 100 8) 101 9) _ _ _ from ?_)
  refine Az.blk kd_1_copyFrom_11 (show Ez md_1_copyFrom 0 0 19 [(0, zr 95), (1, zr 3)] [zr 10, zr 102] zSh (zcp (zcp (zcp (zcp (zcp (zup μ 96 0 (μ 4 0)) 97 5) 98 6) 99 7) 100 8) 101 9) _ _ _ from ?_)
  refine Az.cVN (mc := md_2_copyTaleFrom) (k := 102) (n := 1) (As := [zr 10]) (rest := []) kr_1_copyFrom_19 zw_276 ok_2_copyTaleFrom rfl rfl rfl trivial (xz_copyTaleFrom_102_10) rfl rfl (show Ez md_1_copyFrom 0 0 22 [(0, zr 95), (1, zr 3)] [] zSh (zcp (zcp (zcp (zcp (zcp (zcp (zcp (zcp (zup (zup (zcp (zcp (zcp (zcp (zcp (zup μ 96 0 (μ 4 0)) 97 5) 98 6) 99 7) 100 8) 101 9) 102 0 (μ 10 0)) 102 1 (μ 10 1)) 103 11) 104 12) 105 13) 106 14) 107 15) 108 16) 109 17) 110 18) _ _ _ from ?_)
  refine Az.blk kd_1_copyFrom_22 (show Ez md_1_copyFrom 0 0 30 [(0, zr 95), (1, zr 3)] [zr 111, zr 19] zSh (zcp (zcp (zcp (zcp (zcp (zcp (zcp (zcp (zup (zup (zcp (zcp (zcp (zcp (zcp (zup μ 96 0 (μ 4 0)) 97 5) 98 6) 99 7) 100 8) 101 9) 102 0 (μ 10 0)) 102 1 (μ 10 1)) 103 11) 104 12) 105 13) 106 14) 107 15) 108 16) 109 17) 110 18) _ _ _ from ?_)
  refine Az.cSN (mc := md_5_copyRow) (n := 2) (As := [zr 19, zr 111]) (rest := []) kr_1_copyFrom_30 zw_281 ok_5_copyRow rfl rfl (xz_copyRow 19 111 10 rfl rfl (by decide)) rfl rfl (show Ez md_1_copyFrom 0 0 33 [(0, zr 95), (1, zr 3)] [] zSh (zcp (zcp (zcp (zcp (zcp (zcp (zcp (zcp (zcp (zup (zup (zcp (zcp (zcp (zcp (zcp (zup μ 96 0 (μ 4 0)) 97 5) 98 6) 99 7) 100 8) 101 9) 102 0 (μ 10 0)) 102 1 (μ 10 1)) 103 11) 104 12) 105 13) 106 14) 107 15) 108 16) 109 17) 110 18) 111 19) _ _ _ from ?_)
  refine Az.blk kd_1_copyFrom_33 (show Ez md_1_copyFrom 0 0 41 [(0, zr 95), (1, zr 3)] [zr 112, zr 20] zSh (zcp (zcp (zcp (zcp (zcp (zcp (zcp (zcp (zcp (zup (zup (zcp (zcp (zcp (zcp (zcp (zup μ 96 0 (μ 4 0)) 97 5) 98 6) 99 7) 100 8) 101 9) 102 0 (μ 10 0)) 102 1 (μ 10 1)) 103 11) 104 12) 105 13) 106 14) 107 15) 108 16) 109 17) 110 18) 111 19) _ _ _ from ?_)
  refine Az.cSN (mc := md_5_copyRow) (n := 2) (As := [zr 20, zr 112]) (rest := []) kr_1_copyFrom_41 zw_281 ok_5_copyRow rfl rfl (xz_copyRow 20 112 10 rfl rfl (by decide)) rfl rfl (show Ez md_1_copyFrom 0 0 44 [(0, zr 95), (1, zr 3)] [] zSh (zcp (zcp (zcp (zcp (zcp (zcp (zcp (zcp (zcp (zcp (zup (zup (zcp (zcp (zcp (zcp (zcp (zup μ 96 0 (μ 4 0)) 97 5) 98 6) 99 7) 100 8) 101 9) 102 0 (μ 10 0)) 102 1 (μ 10 1)) 103 11) 104 12) 105 13) 106 14) 107 15) 108 16) 109 17) 110 18) 111 19) 112 20) _ _ _ from ?_)
  refine Az.blk kd_1_copyFrom_44 (show Ez md_1_copyFrom 0 0 60 [(0, zr 95), (1, zr 3)] [] zSh (zup (zup (zcp (zcp (zcp (zcp (zcp (zcp (zcp (zcp (zcp (zcp (zup (zup (zcp (zcp (zcp (zcp (zcp (zup μ 96 0 (μ 4 0)) 97 5) 98 6) 99 7) 100 8) 101 9) 102 0 (μ 10 0)) 102 1 (μ 10 1)) 103 11) 104 12) 105 13) 106 14) 107 15) 108 16) 109 17) 110 18) 111 19) 112 20) 95 4 (μ 3 4)) 95 5 (μ 3 5)) _ _ _ from ?_)
  refine Az.mem (μ' := zcs μ 95 3) (fun G k sp H hk h => by rw [← zsm_cell (zsm_95_3 μ) hk]; exact h) ?_
  exact Ez.vret kr_1_copyFrom_60 rfl (Nat.zero_le _) (Nat.zero_le _) rfl rfl
def zpair (d s : Nat) : Prop := (d = 3 ∧ s = 21) ∨ (d = 21 ∧ s = 3) ∨ (d = 3 ∧ (s = 41 ∨ s = 59 ∨ s = 77 ∨ s = 95)) ∨ ((d = 41 ∨ d = 59 ∨ d = 77 ∨ d = 95) ∧ s = 3)
theorem xz_copyFrom {μ : zM} (d s : Nat) (h : zpair d s) : Dz md_1_copyFrom [zr d, zr s] zSh μ none zSh (zcs μ d s) := by
  rcases h with ⟨rfl, rfl⟩ | ⟨rfl, rfl⟩ | ⟨rfl, rfl | rfl | rfl | rfl⟩ | ⟨rfl | rfl | rfl | rfl, rfl⟩
  · exact xz_copyFrom_3_21
  · exact xz_copyFrom_21_3
  · exact xz_copyFrom_3_41
  · exact xz_copyFrom_3_59
  · exact xz_copyFrom_3_77
  · exact xz_copyFrom_3_95
  · exact xz_copyFrom_41_3
  · exact xz_copyFrom_59_3
  · exact xz_copyFrom_77_3
  · exact xz_copyFrom_95_3
