theorem zc_Text_len {Sh : List zS} {k N : Nat} (hN : Sh.length = N) : (zc_Text Sh k).length = N + 1 := zmk_len hN
theorem zc_Text_ne {Sh : List zS} {k j : Nat} {a : zS} (hj : j ≠ k) (h : Sh[j]? = some a) : (zc_Text Sh k)[j]? = some a := zmk_ne hj h
/-- the history's array of four places -/
def zc_HistM1 (μ : zM) (N : Nat) : zM := zup μ N 0 ((N + 1 : Nat) : Int)
def zc_HistM2 (μ : zM) (N : Nat) : zM := zup (zc_HistM1 μ N) N 1 ((N + 19 : Nat) : Int)
def zc_HistM3 (μ : zM) (N : Nat) : zM := zup (zc_HistM2 μ N) N 2 ((N + 37 : Nat) : Int)
def zc_HistM (μ : zM) (N : Nat) : zM := zup (zc_HistM3 μ N) N 3 ((N + 55 : Nat) : Int)
theorem zc_HistM1_ne {μ : zM} {N k : Nat} (h : k ≠ N) : zc_HistM1 μ N k = μ k := zup_ne h
theorem zc_HistM2_ne {μ : zM} {N k : Nat} (h : k ≠ N) : zc_HistM2 μ N k = μ k := (zup_ne h).trans (zc_HistM1_ne h)
theorem zc_HistM3_ne {μ : zM} {N k : Nat} (h : k ≠ N) : zc_HistM3 μ N k = μ k := (zup_ne h).trans (zc_HistM2_ne h)
theorem zc_HistM_ne {μ : zM} {N k : Nat} (h : k ≠ N) : zc_HistM μ N k = μ k := (zup_ne h).trans (zc_HistM3_ne h)
def kb_0_init_0 : List zI := [(.aload_n 0, 1, 0, 0)]
theorem kd_0_init_0 : zdec md_0_init 0 kb_0_init_0 = true := by decide +kernel
theorem kr_0_init_1 : decode md_0_init.2.1 1 = .ok (.invokespecial 3, 3) := by decide +kernel
def kb_0_init_4 : List zI := [(.aload_n 0, 1, 0, 0), (.iconst 4, 1, 0, 0)]
theorem kd_0_init_4 : zdec md_0_init 4 kb_0_init_4 = true := by decide +kernel
theorem kr_0_init_6 : decode md_0_init.2.1 6 = .ok (.anewarray 9, 3) := by decide +kernel
theorem kr_0_init_9 : decode md_0_init.2.1 9 = .ok (.putfield 11, 3) := by decide +kernel
def kb_0_init_12 : List zI := [(.aload_n 0, 1, 0, 0), (.iconst 0, 1, 0, 0)]
theorem kd_0_init_12 : zdec md_0_init 12 kb_0_init_12 = true := by decide +kernel
theorem kr_0_init_14 : decode md_0_init.2.1 14 = .ok (.putfield 17, 3) := by decide +kernel
def kb_0_init_17 : List zI := [(.iconst 0, 1, 0, 0), (.istore_n 1, 1, 0, 0)]
theorem kd_0_init_17 : zdec md_0_init 17 kb_0_init_17 = true := by decide +kernel
def kb_0_init_19 : List zI := [(.iload_n 1, 1, 0, 0), (.iconst 4, 1, 0, 0), (.if_icmp .ge 22, 3, 43, 0)]
theorem kd_0_init_19 : zdec md_0_init 19 kb_0_init_19 = true := by decide +kernel
def kb_0_init_24 : List zI := [(.aload_n 0, 1, 0, 0), (.getfield 11, 3, 0, 0), (.iload_n 1, 1, 0, 0)]
theorem kd_0_init_24 : zdec md_0_init 24 kb_0_init_24 = true := by decide +kernel
def kb_0_init_36 : List zI := [(.aastore, 1, 0, 0), (.iinc 1 1, 3, 0, 0), (.goto (-21), 3, 19, 0)]
theorem kd_0_init_36 : zdec md_0_init 36 kb_0_init_36 = true := by decide +kernel
theorem kr_0_init_29 : decode md_0_init.2.1 29 = .ok (.new 9, 3) := by decide +kernel
def kb_0_init_32 : List zI := [(.dup, 1, 0, 0)]
theorem kd_0_init_32 : zdec md_0_init 32 kb_0_init_32 = true := by decide +kernel
theorem kr_0_init_33 : decode md_0_init.2.1 33 = .ok (.invokespecial 21, 3) := by decide +kernel
theorem kr_0_init_43 : decode md_0_init.2.1 43 = .ok (.return_, 1) := by decide +kernel
/-- one round of the loop that makes the history's states -/
theorem zh_round {C : zG → Array Value → State → Prop} {F : zG → List Frame → Array Value → State → State → Prop} {k N L cn sn : Nat} {r : Int} {X Y : List zS} {μ : zM} (hY : Y = zc_State (X ++ [.inl (1, [some none, some none, some none, some none, none, none])]) L (L + 1)) (hk : X[k]? = some (.inl (0, [some (some N), none]))) (hl : X.length = L) (hA : Y[N]? = some (.inr (2, 4))) (hn : ∃ fs, Y[L]? = some (Sum.inl (1, fs))) (hz : ∀ j, L ≤ j → ∀ z, μ j z = 0) (hr : 0 ≤ r ∧ r < 4) (hL : ¬ L = 0) (hcn : cn + 18 ≤ 73) (hsn : sn + 524 ≤ 2100)
    (kk : Az md_0_init C F (cn + 1 + 17) (sn + 6 + 518) 19 [(1, zi (r + 1)), (0, zr k)] [] Y (zup μ N r (L : Int))) : Az md_0_init C F cn sn 19 [(1, zi r), (0, zr k)] [] X μ := by
  refine Az.blk kd_0_init_19 (show zR r ∧ zR 4 ∧ zbr .ge r 4 (Az md_0_init C F cn sn 43 [(1, zi r), (0, zr k)] [] X μ) (Az md_0_init C F cn sn 24 [(1, zi r), (0, zr k)] [] X μ) from ⟨by omega, by decide, fun h => absurd hr.2 h, fun _ => ?_⟩)
  refine Az.blk kd_0_init_24 (zob_i hk (show Az md_0_init C F cn sn 29 [(1, zi r), (0, zr k)] [zi r, zr N] X μ from ?_))
  refine Az.newN (ci := 1) (N := 6) (L := L) (fs := [some none, some none, some none, some none, none, none]) kr_0_init_29 zw_142 zw_35 zw_3 rfl rfl hl (hz _ (Nat.le_refl _)) (by rw [Bool.and_eq_true]; exact ⟨Nat.ble_eq_true_of_le (show cn + 1 ≤ 73 by omega), Nat.ble_eq_true_of_le (show sn + 6 ≤ 2100 by omega)⟩) ?_
  refine Az.blk kd_0_init_32 (show Az md_0_init C F (cn + 1) (sn + 6) 33 [(1, zi r), (0, zr k)] [zr L, zr L, zi r, zr N] (X ++ [.inl (1, [some none, some none, some none, some none, none, none])]) μ from ?_)
  refine Az.cINg (mc := md_1_init) (n := 0) (As := []) (rest := [zr L, zi r, zr N]) kr_0_init_33 zw_144 ok_1_init rfl rfl rfl ⟨show cn + 1 + 17 ≤ 73 by omega, show sn + 6 + 518 ≤ 2100 by omega⟩ (zc_State_ok (zgl hl) (zgll hl) (fun j hj => hz j (by omega)) (hz _ (Nat.le_refl _))) rfl rfl ?_
  rw [← hY]
  obtain ⟨fs, hn⟩ := hn
  exact Az.blk kd_0_init_36 (zar_i hA rfl ⟨hr, hL, zob_i (f := fun _ => True) hn True.intro, kk⟩)
def zc_History_0 (Sh : List zS) (k N : Nat) : List zS := zmk Sh k (.inr (2, 4)) 0 [some (some N), none]
theorem zc_History_0_len {Sh : List zS} {k N : Nat} (hN : Sh.length = N) : (zc_History_0 Sh k N).length = N + 1 := by
  unfold zc_History_0
  exact zmk_len hN
theorem zc_History_0_get {Sh : List zS} {k N : Nat} {a : zS} (hk : Sh[k]? = some a) (hN : Sh.length = N) : (zc_History_0 Sh k N)[k]? = some (Sum.inl (0, [some (some N), none])) := by
  have hkl : k < N := by rw [← hN]; exact (List.getElem?_eq_some_iff.mp hk).1
  unfold zc_History_0
  exact zmk_get hk
theorem zc_History_0_ne {Sh : List zS} {k N : Nat} {j : Nat} {a : zS} (hN : Sh.length = N) (hj : j ≠ k) (h : Sh[j]? = some a) : (zc_History_0 Sh k N)[j]? = some a := by
  have hjl : j < N := by rw [← hN]; exact (List.getElem?_eq_some_iff.mp h).1
  unfold zc_History_0
  exact zmk_ne hj h
theorem zc_History_0_arr {Sh : List zS} {k N : Nat} {a : zS} (hk : Sh[k]? = some a) (hN : Sh.length = N) : (zc_History_0 Sh k N)[N]? = some (.inr (2, 4)) := by
  have hkl : k < N := by rw [← hN]; exact (List.getElem?_eq_some_iff.mp hk).1
  unfold zc_History_0 zmk
  rw [List.getElem?_set_ne (by omega)]
  exact zgl hN
def zc_History_1 (Sh : List zS) (k N : Nat) : List zS := zc_State ((zc_History_0 Sh k N) ++ [.inl (1, [some none, some none, some none, some none, none, none])]) (N + 1) (N + 1 + 1)
theorem zc_History_1_len {Sh : List zS} {k N : Nat} (hN : Sh.length = N) : (zc_History_1 Sh k N).length = N + 19 := by
  unfold zc_History_1
  exact zc_State_len (zgll (zc_History_0_len hN))
theorem zc_History_1_get {Sh : List zS} {k N : Nat} {a : zS} (hk : Sh[k]? = some a) (hN : Sh.length = N) : (zc_History_1 Sh k N)[k]? = some (Sum.inl (0, [some (some N), none])) := by
  have hkl : k < N := by rw [← hN]; exact (List.getElem?_eq_some_iff.mp hk).1
  unfold zc_History_1
  exact zc_State_ne (zgll (zc_History_0_len hN)) (show k ≠ N + 1 by omega) (zga (zc_History_0_get hk hN))
theorem zc_History_1_ne {Sh : List zS} {k N : Nat} {j : Nat} {a : zS} (hN : Sh.length = N) (hj : j ≠ k) (h : Sh[j]? = some a) : (zc_History_1 Sh k N)[j]? = some a := by
  have hjl : j < N := by rw [← hN]; exact (List.getElem?_eq_some_iff.mp h).1
  unfold zc_History_1
  exact zc_State_ne (zgll (zc_History_0_len hN)) (show j ≠ N + 1 by omega) (zga (zc_History_0_ne hN hj h))
theorem zc_History_1_arr {Sh : List zS} {k N : Nat} {a : zS} (hk : Sh[k]? = some a) (hN : Sh.length = N) : (zc_History_1 Sh k N)[N]? = some (.inr (2, 4)) := by
  unfold zc_History_1
  exact zc_State_ne (zgll (zc_History_0_len hN)) (show N ≠ N + 1 by omega) (zga (zc_History_0_arr hk hN))
theorem zc_History_1_new {Sh : List zS} {k N : Nat} (hN : Sh.length = N) : ∃ fs, (zc_History_1 Sh k N)[N + 1]? = some (Sum.inl (1, fs)) := by
  have h := zc_State_get (Sh := (zc_History_0 Sh k N) ++ [.inl (1, [some none, some none, some none, some none, none, none])]) (k := N + 1) (N := N + 1 + 1) (zgl (zc_History_0_len hN)) (zgll (zc_History_0_len hN))
  unfold zc_History_1
  exact ⟨_, h⟩
theorem zc_History_1_eq (Sh : List zS) (k N : Nat) : zc_History_1 Sh k N = zc_State ((zc_History_0 Sh k N) ++ [.inl (1, [some none, some none, some none, some none, none, none])]) (N + 1) (N + 1 + 1) := rfl
def zc_History_2 (Sh : List zS) (k N : Nat) : List zS := zc_State ((zc_History_1 Sh k N) ++ [.inl (1, [some none, some none, some none, some none, none, none])]) (N + 19) (N + 19 + 1)
theorem zc_History_2_len {Sh : List zS} {k N : Nat} (hN : Sh.length = N) : (zc_History_2 Sh k N).length = N + 37 := by
  unfold zc_History_2
  exact zc_State_len (zgll (zc_History_1_len hN))
theorem zc_History_2_get {Sh : List zS} {k N : Nat} {a : zS} (hk : Sh[k]? = some a) (hN : Sh.length = N) : (zc_History_2 Sh k N)[k]? = some (Sum.inl (0, [some (some N), none])) := by
  have hkl : k < N := by rw [← hN]; exact (List.getElem?_eq_some_iff.mp hk).1
  unfold zc_History_2
  exact zc_State_ne (zgll (zc_History_1_len hN)) (show k ≠ N + 19 by omega) (zga (zc_History_1_get hk hN))
theorem zc_History_2_ne {Sh : List zS} {k N : Nat} {j : Nat} {a : zS} (hN : Sh.length = N) (hj : j ≠ k) (h : Sh[j]? = some a) : (zc_History_2 Sh k N)[j]? = some a := by
  have hjl : j < N := by rw [← hN]; exact (List.getElem?_eq_some_iff.mp h).1
  unfold zc_History_2
  exact zc_State_ne (zgll (zc_History_1_len hN)) (show j ≠ N + 19 by omega) (zga (zc_History_1_ne hN hj h))
theorem zc_History_2_arr {Sh : List zS} {k N : Nat} {a : zS} (hk : Sh[k]? = some a) (hN : Sh.length = N) : (zc_History_2 Sh k N)[N]? = some (.inr (2, 4)) := by
  unfold zc_History_2
  exact zc_State_ne (zgll (zc_History_1_len hN)) (show N ≠ N + 19 by omega) (zga (zc_History_1_arr hk hN))
theorem zc_History_2_new {Sh : List zS} {k N : Nat} (hN : Sh.length = N) : ∃ fs, (zc_History_2 Sh k N)[N + 19]? = some (Sum.inl (1, fs)) := by
  have h := zc_State_get (Sh := (zc_History_1 Sh k N) ++ [.inl (1, [some none, some none, some none, some none, none, none])]) (k := N + 19) (N := N + 19 + 1) (zgl (zc_History_1_len hN)) (zgll (zc_History_1_len hN))
  unfold zc_History_2
  exact ⟨_, h⟩
theorem zc_History_2_eq (Sh : List zS) (k N : Nat) : zc_History_2 Sh k N = zc_State ((zc_History_1 Sh k N) ++ [.inl (1, [some none, some none, some none, some none, none, none])]) (N + 19) (N + 19 + 1) := rfl
def zc_History_3 (Sh : List zS) (k N : Nat) : List zS := zc_State ((zc_History_2 Sh k N) ++ [.inl (1, [some none, some none, some none, some none, none, none])]) (N + 37) (N + 37 + 1)
theorem zc_History_3_len {Sh : List zS} {k N : Nat} (hN : Sh.length = N) : (zc_History_3 Sh k N).length = N + 55 := by
  unfold zc_History_3
  exact zc_State_len (zgll (zc_History_2_len hN))
theorem zc_History_3_get {Sh : List zS} {k N : Nat} {a : zS} (hk : Sh[k]? = some a) (hN : Sh.length = N) : (zc_History_3 Sh k N)[k]? = some (Sum.inl (0, [some (some N), none])) := by
  have hkl : k < N := by rw [← hN]; exact (List.getElem?_eq_some_iff.mp hk).1
  unfold zc_History_3
  exact zc_State_ne (zgll (zc_History_2_len hN)) (show k ≠ N + 37 by omega) (zga (zc_History_2_get hk hN))
theorem zc_History_3_ne {Sh : List zS} {k N : Nat} {j : Nat} {a : zS} (hN : Sh.length = N) (hj : j ≠ k) (h : Sh[j]? = some a) : (zc_History_3 Sh k N)[j]? = some a := by
  have hjl : j < N := by rw [← hN]; exact (List.getElem?_eq_some_iff.mp h).1
  unfold zc_History_3
  exact zc_State_ne (zgll (zc_History_2_len hN)) (show j ≠ N + 37 by omega) (zga (zc_History_2_ne hN hj h))
theorem zc_History_3_arr {Sh : List zS} {k N : Nat} {a : zS} (hk : Sh[k]? = some a) (hN : Sh.length = N) : (zc_History_3 Sh k N)[N]? = some (.inr (2, 4)) := by
  unfold zc_History_3
  exact zc_State_ne (zgll (zc_History_2_len hN)) (show N ≠ N + 37 by omega) (zga (zc_History_2_arr hk hN))
theorem zc_History_3_new {Sh : List zS} {k N : Nat} (hN : Sh.length = N) : ∃ fs, (zc_History_3 Sh k N)[N + 37]? = some (Sum.inl (1, fs)) := by
  have h := zc_State_get (Sh := (zc_History_2 Sh k N) ++ [.inl (1, [some none, some none, some none, some none, none, none])]) (k := N + 37) (N := N + 37 + 1) (zgl (zc_History_2_len hN)) (zgll (zc_History_2_len hN))
  unfold zc_History_3
  exact ⟨_, h⟩
theorem zc_History_3_eq (Sh : List zS) (k N : Nat) : zc_History_3 Sh k N = zc_State ((zc_History_2 Sh k N) ++ [.inl (1, [some none, some none, some none, some none, none, none])]) (N + 37) (N + 37 + 1) := rfl
def zc_History_4 (Sh : List zS) (k N : Nat) : List zS := zc_State ((zc_History_3 Sh k N) ++ [.inl (1, [some none, some none, some none, some none, none, none])]) (N + 55) (N + 55 + 1)
theorem zc_History_4_len {Sh : List zS} {k N : Nat} (hN : Sh.length = N) : (zc_History_4 Sh k N).length = N + 73 := by
  unfold zc_History_4
  exact zc_State_len (zgll (zc_History_3_len hN))
theorem zc_History_4_get {Sh : List zS} {k N : Nat} {a : zS} (hk : Sh[k]? = some a) (hN : Sh.length = N) : (zc_History_4 Sh k N)[k]? = some (Sum.inl (0, [some (some N), none])) := by
  have hkl : k < N := by rw [← hN]; exact (List.getElem?_eq_some_iff.mp hk).1
  unfold zc_History_4
  exact zc_State_ne (zgll (zc_History_3_len hN)) (show k ≠ N + 55 by omega) (zga (zc_History_3_get hk hN))
theorem zc_History_4_ne {Sh : List zS} {k N : Nat} {j : Nat} {a : zS} (hN : Sh.length = N) (hj : j ≠ k) (h : Sh[j]? = some a) : (zc_History_4 Sh k N)[j]? = some a := by
  have hjl : j < N := by rw [← hN]; exact (List.getElem?_eq_some_iff.mp h).1
  unfold zc_History_4
  exact zc_State_ne (zgll (zc_History_3_len hN)) (show j ≠ N + 55 by omega) (zga (zc_History_3_ne hN hj h))
theorem zc_History_4_arr {Sh : List zS} {k N : Nat} {a : zS} (hk : Sh[k]? = some a) (hN : Sh.length = N) : (zc_History_4 Sh k N)[N]? = some (.inr (2, 4)) := by
  unfold zc_History_4
  exact zc_State_ne (zgll (zc_History_3_len hN)) (show N ≠ N + 55 by omega) (zga (zc_History_3_arr hk hN))
theorem zc_History_4_new {Sh : List zS} {k N : Nat} (hN : Sh.length = N) : ∃ fs, (zc_History_4 Sh k N)[N + 55]? = some (Sum.inl (1, fs)) := by
  have h := zc_State_get (Sh := (zc_History_3 Sh k N) ++ [.inl (1, [some none, some none, some none, some none, none, none])]) (k := N + 55) (N := N + 55 + 1) (zgl (zc_History_3_len hN)) (zgll (zc_History_3_len hN))
  unfold zc_History_4
  exact ⟨_, h⟩
theorem zc_History_4_eq (Sh : List zS) (k N : Nat) : zc_History_4 Sh k N = zc_State ((zc_History_3 Sh k N) ++ [.inl (1, [some none, some none, some none, some none, none, none])]) (N + 55) (N + 55 + 1) := rfl
def zc_History (Sh : List zS) (k N : Nat) : List zS := (zc_History_4 Sh k N)
theorem zc_History_len {Sh : List zS} {k N : Nat} (hN : Sh.length = N) : (zc_History Sh k N).length = N + 73 := zc_History_4_len hN
theorem zc_History_get {Sh : List zS} {k N : Nat} {a : zS} (hk : Sh[k]? = some a) (hN : Sh.length = N) : (zc_History Sh k N)[k]? = some (Sum.inl (0, [some (some N), none])) := by
  have hkl : k < N := by rw [← hN]; exact (List.getElem?_eq_some_iff.mp hk).1
  exact zc_History_4_get hk hN
theorem zc_History_ne {Sh : List zS} {k N j : Nat} {a : zS} (hN : Sh.length = N) (hj : j ≠ k) (h : Sh[j]? = some a) : (zc_History Sh k N)[j]? = some a := by
  have hjl : j < N := by rw [← hN]; exact (List.getElem?_eq_some_iff.mp h).1
  exact zc_History_4_ne hN hj h
theorem zc_History_ok {Sh : List zS} {k N : Nat} (hk : Sh[k]? = some (Sum.inl (0, [some none, none]))) (hN : Sh.length = N) {μ : zM} (hz : ∀ j, N ≤ j → ∀ z, μ j z = 0) (h0 : ∀ z, μ k z = 0) : Dz md_0_init [zr k] Sh μ none (zc_History Sh k N) (zc_HistM μ N) := by
  refine Dz.of (by decide) rfl rfl (show Ez md_0_init 0 0 0 [(0, zr k)] [] Sh μ none (zc_History Sh k N) (zc_HistM μ N) from ?_)
  have hkl : k < N := by rw [← hN]; exact (List.getElem?_eq_some_iff.mp hk).1
  refine Az.blk kd_0_init_0 (show Ez md_0_init 0 0 1 [(0, zr k)] [zr k] Sh μ _ _ _ from ?_)
  refine Az.objInit kr_0_init_1 zw_141 rfl rfl ?_
  refine Az.blk kd_0_init_4 (show Ez md_0_init 0 0 6 [(0, zr k)] [zi 4, zr k] Sh μ _ _ _ from ?_)
  refine Az.anewN (n := 4) (L := N) kr_0_init_6 zw_142 rfl rfl hN (hz _ (by omega)) rfl ?_
  refine Az.putrT (r := N) (fs' := [some (some N), none]) kr_0_init_9 rfl rfl rfl rfl (zga hk) rfl rfl ?_
  refine Az.blk kd_0_init_12 (show Ez md_0_init 1 4 14 [(0, zr k)] [zi 0, zr k] (zc_History_0 Sh k N) μ _ _ _ from ?_)
  refine Az.puti (b := 1) kr_0_init_14 rfl rfl rfl (zc_History_0_get hk hN) rfl ?_
  rw [zup_same (h0 _)]
  refine Az.blk kd_0_init_17 (show Ez md_0_init 1 4 19 [(1, zi 0), (0, zr k)] [] (zc_History_0 Sh k N) μ _ _ _ from ?_)
  refine zh_round (r := 0) (L := N + 1) (zc_History_1_eq Sh k N) (zc_History_0_get hk hN) (zc_History_0_len hN) (zc_History_1_arr hk hN) (zc_History_1_new hN) (fun j hj => hz j (by omega)) (by decide) (by omega) (by decide) (by decide) (show Ez md_0_init 19 528 19 [(1, zi 1), (0, zr k)] [] (zc_History_1 Sh k N) (zc_HistM1 μ N) _ _ _ from ?_)
  have hz1 : ∀ j, N + 1 ≤ j → ∀ z, (zc_HistM1 μ N) j z = 0 := fun j hj z => by rw [zc_HistM1_ne (by omega)]; exact hz j (by omega) z
  refine zh_round (r := 1) (L := N + 19) (zc_History_2_eq Sh k N) (zc_History_1_get hk hN) (zc_History_1_len hN) (zc_History_2_arr hk hN) (zc_History_2_new hN) (fun j hj => hz1 j (by omega)) (by decide) (by omega) (by decide) (by decide) (show Ez md_0_init 37 1052 19 [(1, zi 2), (0, zr k)] [] (zc_History_2 Sh k N) (zc_HistM2 μ N) _ _ _ from ?_)
  have hz2 : ∀ j, N + 1 ≤ j → ∀ z, (zc_HistM2 μ N) j z = 0 := fun j hj z => by rw [zc_HistM2_ne (by omega)]; exact hz j (by omega) z
  refine zh_round (r := 2) (L := N + 37) (zc_History_3_eq Sh k N) (zc_History_2_get hk hN) (zc_History_2_len hN) (zc_History_3_arr hk hN) (zc_History_3_new hN) (fun j hj => hz2 j (by omega)) (by decide) (by omega) (by decide) (by decide) (show Ez md_0_init 55 1576 19 [(1, zi 3), (0, zr k)] [] (zc_History_3 Sh k N) (zc_HistM3 μ N) _ _ _ from ?_)
  have hz3 : ∀ j, N + 1 ≤ j → ∀ z, (zc_HistM3 μ N) j z = 0 := fun j hj z => by rw [zc_HistM3_ne (by omega)]; exact hz j (by omega) z
  refine zh_round (r := 3) (L := N + 55) (zc_History_4_eq Sh k N) (zc_History_3_get hk hN) (zc_History_3_len hN) (zc_History_4_arr hk hN) (zc_History_4_new hN) (fun j hj => hz3 j (by omega)) (by decide) (by omega) (by decide) (by decide) (show Ez md_0_init 73 2100 19 [(1, zi 4), (0, zr k)] [] (zc_History_4 Sh k N) (zc_HistM μ N) _ _ _ from ?_)
  have hz4 : ∀ j, N + 1 ≤ j → ∀ z, (zc_HistM μ N) j z = 0 := fun j hj z => by rw [zc_HistM_ne (by omega)]; exact hz j (by omega) z
  refine Az.blk kd_0_init_19 (show zR 4 ∧ zR 4 ∧ zbr .ge 4 4 (Ez md_0_init 73 2100 43 [(1, zi 4), (0, zr k)] [] (zc_History_4 Sh k N) (zc_HistM μ N) _ _ _) _ from ⟨by decide, by decide, fun _ => ?_, fun h => absurd h (by decide)⟩)
  exact Ez.vret kr_0_init_43 rfl (Nat.le_refl _) (Nat.le_refl _) rfl rfl
