def kb_5_init_0 : List zI := [(.aload_n 0, 1, 0, 0)]
theorem kd_5_init_0 : zdec md_5_init 0 kb_5_init_0 = true := by decide +kernel
theorem kr_5_init_1 : decode md_5_init.2.1 1 = .ok (.invokespecial 3, 3) := by decide +kernel
def kb_5_init_4 : List zI := [(.aload_n 0, 1, 0, 0)]
theorem kd_5_init_4 : zdec md_5_init 4 kb_5_init_4 = true := by decide +kernel
theorem kr_5_init_5 : decode md_5_init.2.1 5 = .ok (.new 9, 3) := by decide +kernel
def kb_5_init_8 : List zI := [(.dup, 1, 0, 0)]
theorem kd_5_init_8 : zdec md_5_init 8 kb_5_init_8 = true := by decide +kernel
theorem kr_5_init_9 : decode md_5_init.2.1 9 = .ok (.invokespecial 11, 3) := by decide +kernel
theorem kr_5_init_12 : decode md_5_init.2.1 12 = .ok (.putfield 12, 3) := by decide +kernel
def kb_5_init_15 : List zI := [(.aload_n 0, 1, 0, 0)]
theorem kd_5_init_15 : zdec md_5_init 15 kb_5_init_15 = true := by decide +kernel
def kb_5_init_19 : List zI := [(.dup, 1, 0, 0)]
theorem kd_5_init_19 : zdec md_5_init 19 kb_5_init_19 = true := by decide +kernel
theorem kr_5_init_16 : decode md_5_init.2.1 16 = .ok (.new 16, 3) := by decide +kernel
theorem kr_5_init_20 : decode md_5_init.2.1 20 = .ok (.invokespecial 18, 3) := by decide +kernel
theorem kr_5_init_23 : decode md_5_init.2.1 23 = .ok (.putfield 19, 3) := by decide +kernel
def kb_5_init_26 : List zI := [(.aload_n 0, 1, 0, 0)]
theorem kd_5_init_26 : zdec md_5_init 26 kb_5_init_26 = true := by decide +kernel
def kb_5_init_30 : List zI := [(.dup, 1, 0, 0)]
theorem kd_5_init_30 : zdec md_5_init 30 kb_5_init_30 = true := by decide +kernel
theorem kr_5_init_27 : decode md_5_init.2.1 27 = .ok (.new 16, 3) := by decide +kernel
theorem kr_5_init_31 : decode md_5_init.2.1 31 = .ok (.invokespecial 18, 3) := by decide +kernel
theorem kr_5_init_34 : decode md_5_init.2.1 34 = .ok (.putfield 23, 3) := by decide +kernel
def kb_5_init_37 : List zI := [(.aload_n 0, 1, 0, 0)]
theorem kd_5_init_37 : zdec md_5_init 37 kb_5_init_37 = true := by decide +kernel
def kb_5_init_41 : List zI := [(.dup, 1, 0, 0)]
theorem kd_5_init_41 : zdec md_5_init 41 kb_5_init_41 = true := by decide +kernel
theorem kr_5_init_38 : decode md_5_init.2.1 38 = .ok (.new 26, 3) := by decide +kernel
theorem kr_5_init_42 : decode md_5_init.2.1 42 = .ok (.invokespecial 28, 3) := by decide +kernel
theorem kr_5_init_45 : decode md_5_init.2.1 45 = .ok (.putfield 29, 3) := by decide +kernel
def kb_5_init_48 : List zI := [(.aload_n 0, 1, 0, 0), (.iconst 0, 1, 0, 0)]
theorem kd_5_init_48 : zdec md_5_init 48 kb_5_init_48 = true := by decide +kernel
theorem kr_5_init_50 : decode md_5_init.2.1 50 = .ok (.putfield 33, 3) := by decide +kernel
theorem kr_5_init_53 : decode md_5_init.2.1 53 = .ok (.return_, 1) := by decide +kernel
theorem zt_16 {C : zG → Array Value → State → Prop} {F : zG → List Frame → Array Value → State → State → Prop} {k N : Nat} {X W Y : List zS} {μ ν : zM} (hk : W[k]? = some (.inl (5, [some (some (N)), some none, some none, some none, none]))) (hl : X.length = N + 2) (hY : Y = W.set k (.inl (5, [some (some (N)), some (some (N + 2)), some none, some none, none]))) (hz : ∀ z, μ (N + 2) z = 0) (hD : Dz md_1_init [zr (N + 2)] (X ++ [.inl (1, [some none, some none, some none, some none, none, none])]) μ none W ν)
    (kk : Az md_5_init C F 20 586 26 [(0, zr k)] [] Y ν) : Az md_5_init C F 2 62 15 [(0, zr k)] [] X μ := by
  subst hY
  refine Az.blk kd_5_init_15 (show Az md_5_init C F 2 62 16 [(0, zr k)] [zr k] X μ from ?_)
  refine Az.newN (ci := 1) (N := 6) (L := N + 2) (fs := [some none, some none, some none, some none, none, none]) kr_5_init_16 zw_34 zw_35 zw_3 rfl rfl hl hz rfl ?_
  refine Az.blk kd_5_init_19 (show Az md_5_init C F 3 68 20 [(0, zr k)] [zr (N + 2), zr (N + 2), zr k] (X ++ [.inl (1, [some none, some none, some none, some none, none, none])]) μ from ?_)
  refine Az.cINg (mc := md_1_init) (n := 0) (As := []) (rest := [zr (N + 2), zr k]) kr_5_init_20 zw_36 ok_1_init rfl rfl rfl ⟨by decide, by decide⟩ hD rfl rfl ?_
  exact Az.putrT (r := N + 2) (fs' := [some (some (N)), some (some (N + 2)), some none, some none, none]) kr_5_init_23 rfl rfl rfl rfl hk rfl rfl kk
theorem zt_27 {C : zG → Array Value → State → Prop} {F : zG → List Frame → Array Value → State → State → Prop} {k N : Nat} {X W Y : List zS} {μ ν : zM} (hk : W[k]? = some (.inl (5, [some (some (N)), some (some (N + 2)), some none, some none, none]))) (hl : X.length = N + 20) (hY : Y = W.set k (.inl (5, [some (some (N)), some (some (N + 2)), some (some (N + 20)), some none, none]))) (hz : ∀ z, μ (N + 20) z = 0) (hD : Dz md_1_init [zr (N + 20)] (X ++ [.inl (1, [some none, some none, some none, some none, none, none])]) μ none W ν)
    (kk : Az md_5_init C F 38 1110 37 [(0, zr k)] [] Y ν) : Az md_5_init C F 20 586 26 [(0, zr k)] [] X μ := by
  subst hY
  refine Az.blk kd_5_init_26 (show Az md_5_init C F 20 586 27 [(0, zr k)] [zr k] X μ from ?_)
  refine Az.newN (ci := 1) (N := 6) (L := N + 20) (fs := [some none, some none, some none, some none, none, none]) kr_5_init_27 zw_34 zw_35 zw_3 rfl rfl hl hz rfl ?_
  refine Az.blk kd_5_init_30 (show Az md_5_init C F 21 592 31 [(0, zr k)] [zr (N + 20), zr (N + 20), zr k] (X ++ [.inl (1, [some none, some none, some none, some none, none, none])]) μ from ?_)
  refine Az.cINg (mc := md_1_init) (n := 0) (As := []) (rest := [zr (N + 20), zr k]) kr_5_init_31 zw_36 ok_1_init rfl rfl rfl ⟨by decide, by decide⟩ hD rfl rfl ?_
  exact Az.putrT (r := N + 20) (fs' := [some (some (N)), some (some (N + 2)), some (some (N + 20)), some none, none]) kr_5_init_34 rfl rfl rfl rfl hk rfl rfl kk
theorem zt_38 {C : zG → Array Value → State → Prop} {F : zG → List Frame → Array Value → State → State → Prop} {k N : Nat} {X W Y : List zS} {μ ν : zM} (hk : W[k]? = some (.inl (5, [some (some (N)), some (some (N + 2)), some (some (N + 20)), some none, none]))) (hl : X.length = N + 38) (hY : Y = W.set k (.inl (5, [some (some (N)), some (some (N + 2)), some (some (N + 20)), some (some (N + 38)), none]))) (hz : ∀ z, μ (N + 38) z = 0) (hD : Dz md_0_init [zr (N + 38)] (X ++ [.inl (0, [some none, none])]) μ none W ν)
    (kk : Az md_5_init C F 112 3212 48 [(0, zr k)] [] Y ν) : Az md_5_init C F 38 1110 37 [(0, zr k)] [] X μ := by
  subst hY
  refine Az.blk kd_5_init_37 (show Az md_5_init C F 38 1110 38 [(0, zr k)] [zr k] X μ from ?_)
  refine Az.newN (ci := 0) (N := 2) (L := N + 38) (fs := [some none, none]) kr_5_init_38 zw_136 zw_137 zw_6 rfl rfl hl hz rfl ?_
  refine Az.blk kd_5_init_41 (show Az md_5_init C F 39 1112 42 [(0, zr k)] [zr (N + 38), zr (N + 38), zr k] (X ++ [.inl (0, [some none, none])]) μ from ?_)
  refine Az.cINg (mc := md_0_init) (n := 0) (As := []) (rest := [zr (N + 38), zr k]) kr_5_init_42 zw_138 ok_0_init rfl rfl rfl ⟨by decide, by decide⟩ hD rfl rfl ?_
  exact Az.putrT (r := N + 38) (fs' := [some (some (N)), some (some (N + 2)), some (some (N + 20)), some (some (N + 38)), none]) kr_5_init_45 rfl rfl rfl rfl hk rfl rfl kk
def zc_TaleHoles_1 (Sh : List zS) (k N : Nat) : List zS := ((zc_Text ((Sh ++ [.inl (3, [some none, none])])) (N))).set k (.inl (5, [some (some (N)), some none, some none, some none, none]))
theorem zc_TaleHoles_1_len {Sh : List zS} {k N : Nat} (hN : Sh.length = N) : (zc_TaleHoles_1 Sh k N).length = N + 2 := by
  unfold zc_TaleHoles_1
  exact zsl (zc_Text_len (zgll (hN)))
theorem zc_TaleHoles_1_get {Sh : List zS} {k N : Nat} {a : zS} (hk : Sh[k]? = some a) (hN : Sh.length = N) : (zc_TaleHoles_1 Sh k N)[k]? = some (Sum.inl (5, [some (some (N)), some none, some none, some none, none])) := by
  have hkl : k < N := by rw [← hN]; exact (List.getElem?_eq_some_iff.mp hk).1
  unfold zc_TaleHoles_1
  exact zgs (zc_Text_ne (show k ≠ N by omega) (zga (hk)))
theorem zc_TaleHoles_1_ne {Sh : List zS} {k N : Nat} {j : Nat} {a : zS} (hN : Sh.length = N) (hj : j ≠ k) (h : Sh[j]? = some a) : (zc_TaleHoles_1 Sh k N)[j]? = some a := by
  have hjl : j < N := by rw [← hN]; exact (List.getElem?_eq_some_iff.mp h).1
  unfold zc_TaleHoles_1
  exact zsn hj (zc_Text_ne (show j ≠ N by omega) (zga (h)))
def zc_TaleHoles_2w (Sh : List zS) (k N : Nat) : List zS := zc_State ((zc_TaleHoles_1 Sh k N) ++ [.inl (1, [some none, some none, some none, some none, none, none])]) (N + 2) (N + 3)
theorem zc_TaleHoles_2w_len {Sh : List zS} {k N : Nat} (hN : Sh.length = N) : (zc_TaleHoles_2w Sh k N).length = N + 20 := by
  unfold zc_TaleHoles_2w
  exact zc_State_len (zgll (zc_TaleHoles_1_len hN))
theorem zc_TaleHoles_2w_get {Sh : List zS} {k N : Nat} {a : zS} (hk : Sh[k]? = some a) (hN : Sh.length = N) : (zc_TaleHoles_2w Sh k N)[k]? = some (Sum.inl (5, [some (some (N)), some none, some none, some none, none])) := by
  have hkl : k < N := by rw [← hN]; exact (List.getElem?_eq_some_iff.mp hk).1
  unfold zc_TaleHoles_2w
  exact zc_State_ne (zgll (zc_TaleHoles_1_len hN)) (show k ≠ N + 2 by omega) (zga (zc_TaleHoles_1_get hk hN))
theorem zc_TaleHoles_2w_ne {Sh : List zS} {k N : Nat} {j : Nat} {a : zS} (hN : Sh.length = N) (hj : j ≠ k) (h : Sh[j]? = some a) : (zc_TaleHoles_2w Sh k N)[j]? = some a := by
  have hjl : j < N := by rw [← hN]; exact (List.getElem?_eq_some_iff.mp h).1
  unfold zc_TaleHoles_2w
  exact zc_State_ne (zgll (zc_TaleHoles_1_len hN)) (show j ≠ N + 2 by omega) (zga (zc_TaleHoles_1_ne hN hj h))
theorem zc_TaleHoles_2w_ok {Sh : List zS} {k N : Nat} (hN : Sh.length = N) {μ : zM} (hz : ∀ j, N ≤ j → ∀ z, μ j z = 0) : Dz md_1_init [zr (N + 2)] ((zc_TaleHoles_1 Sh k N) ++ [.inl (1, [some none, some none, some none, some none, none, none])]) μ none (zc_TaleHoles_2w Sh k N) (μ) := zc_State_ok (zgl (zc_TaleHoles_1_len hN)) (zgll (zc_TaleHoles_1_len hN)) (fun j hj => hz j (by omega)) (hz _ (by omega))
def zc_TaleHoles_2 (Sh : List zS) (k N : Nat) : List zS := (zc_TaleHoles_2w Sh k N).set k (.inl (5, [some (some (N)), some (some (N + 2)), some none, some none, none]))
theorem zc_TaleHoles_2_len {Sh : List zS} {k N : Nat} (hN : Sh.length = N) : (zc_TaleHoles_2 Sh k N).length = N + 20 := by
  unfold zc_TaleHoles_2
  exact zsl (zc_TaleHoles_2w_len hN)
theorem zc_TaleHoles_2_get {Sh : List zS} {k N : Nat} {a : zS} (hk : Sh[k]? = some a) (hN : Sh.length = N) : (zc_TaleHoles_2 Sh k N)[k]? = some (Sum.inl (5, [some (some (N)), some (some (N + 2)), some none, some none, none])) := by
  have hkl : k < N := by rw [← hN]; exact (List.getElem?_eq_some_iff.mp hk).1
  unfold zc_TaleHoles_2
  exact zgs (zc_TaleHoles_2w_get hk hN)
theorem zc_TaleHoles_2_ne {Sh : List zS} {k N : Nat} {j : Nat} {a : zS} (hN : Sh.length = N) (hj : j ≠ k) (h : Sh[j]? = some a) : (zc_TaleHoles_2 Sh k N)[j]? = some a := by
  have hjl : j < N := by rw [← hN]; exact (List.getElem?_eq_some_iff.mp h).1
  unfold zc_TaleHoles_2
  exact zsn hj (zc_TaleHoles_2w_ne hN hj h)
def zc_TaleHoles_3w (Sh : List zS) (k N : Nat) : List zS := zc_State ((zc_TaleHoles_2 Sh k N) ++ [.inl (1, [some none, some none, some none, some none, none, none])]) (N + 20) (N + 21)
theorem zc_TaleHoles_3w_len {Sh : List zS} {k N : Nat} (hN : Sh.length = N) : (zc_TaleHoles_3w Sh k N).length = N + 38 := by
  unfold zc_TaleHoles_3w
  exact zc_State_len (zgll (zc_TaleHoles_2_len hN))
theorem zc_TaleHoles_3w_get {Sh : List zS} {k N : Nat} {a : zS} (hk : Sh[k]? = some a) (hN : Sh.length = N) : (zc_TaleHoles_3w Sh k N)[k]? = some (Sum.inl (5, [some (some (N)), some (some (N + 2)), some none, some none, none])) := by
  have hkl : k < N := by rw [← hN]; exact (List.getElem?_eq_some_iff.mp hk).1
  unfold zc_TaleHoles_3w
  exact zc_State_ne (zgll (zc_TaleHoles_2_len hN)) (show k ≠ N + 20 by omega) (zga (zc_TaleHoles_2_get hk hN))
theorem zc_TaleHoles_3w_ne {Sh : List zS} {k N : Nat} {j : Nat} {a : zS} (hN : Sh.length = N) (hj : j ≠ k) (h : Sh[j]? = some a) : (zc_TaleHoles_3w Sh k N)[j]? = some a := by
  have hjl : j < N := by rw [← hN]; exact (List.getElem?_eq_some_iff.mp h).1
  unfold zc_TaleHoles_3w
  exact zc_State_ne (zgll (zc_TaleHoles_2_len hN)) (show j ≠ N + 20 by omega) (zga (zc_TaleHoles_2_ne hN hj h))
theorem zc_TaleHoles_3w_ok {Sh : List zS} {k N : Nat} (hN : Sh.length = N) {μ : zM} (hz : ∀ j, N ≤ j → ∀ z, μ j z = 0) : Dz md_1_init [zr (N + 20)] ((zc_TaleHoles_2 Sh k N) ++ [.inl (1, [some none, some none, some none, some none, none, none])]) μ none (zc_TaleHoles_3w Sh k N) (μ) := zc_State_ok (zgl (zc_TaleHoles_2_len hN)) (zgll (zc_TaleHoles_2_len hN)) (fun j hj => hz j (by omega)) (hz _ (by omega))
def zc_TaleHoles_3 (Sh : List zS) (k N : Nat) : List zS := (zc_TaleHoles_3w Sh k N).set k (.inl (5, [some (some (N)), some (some (N + 2)), some (some (N + 20)), some none, none]))
theorem zc_TaleHoles_3_len {Sh : List zS} {k N : Nat} (hN : Sh.length = N) : (zc_TaleHoles_3 Sh k N).length = N + 38 := by
  unfold zc_TaleHoles_3
  exact zsl (zc_TaleHoles_3w_len hN)
theorem zc_TaleHoles_3_get {Sh : List zS} {k N : Nat} {a : zS} (hk : Sh[k]? = some a) (hN : Sh.length = N) : (zc_TaleHoles_3 Sh k N)[k]? = some (Sum.inl (5, [some (some (N)), some (some (N + 2)), some (some (N + 20)), some none, none])) := by
  have hkl : k < N := by rw [← hN]; exact (List.getElem?_eq_some_iff.mp hk).1
  unfold zc_TaleHoles_3
  exact zgs (zc_TaleHoles_3w_get hk hN)
theorem zc_TaleHoles_3_ne {Sh : List zS} {k N : Nat} {j : Nat} {a : zS} (hN : Sh.length = N) (hj : j ≠ k) (h : Sh[j]? = some a) : (zc_TaleHoles_3 Sh k N)[j]? = some a := by
  have hjl : j < N := by rw [← hN]; exact (List.getElem?_eq_some_iff.mp h).1
  unfold zc_TaleHoles_3
  exact zsn hj (zc_TaleHoles_3w_ne hN hj h)
def zc_TaleHoles_4w (Sh : List zS) (k N : Nat) : List zS := zc_History ((zc_TaleHoles_3 Sh k N) ++ [.inl (0, [some none, none])]) (N + 38) (N + 39)
theorem zc_TaleHoles_4w_len {Sh : List zS} {k N : Nat} (hN : Sh.length = N) : (zc_TaleHoles_4w Sh k N).length = N + 112 := by
  unfold zc_TaleHoles_4w
  exact zc_History_len (zgll (zc_TaleHoles_3_len hN))
theorem zc_TaleHoles_4w_get {Sh : List zS} {k N : Nat} {a : zS} (hk : Sh[k]? = some a) (hN : Sh.length = N) : (zc_TaleHoles_4w Sh k N)[k]? = some (Sum.inl (5, [some (some (N)), some (some (N + 2)), some (some (N + 20)), some none, none])) := by
  have hkl : k < N := by rw [← hN]; exact (List.getElem?_eq_some_iff.mp hk).1
  unfold zc_TaleHoles_4w
  exact zc_History_ne (zgll (zc_TaleHoles_3_len hN)) (show k ≠ N + 38 by omega) (zga (zc_TaleHoles_3_get hk hN))
theorem zc_TaleHoles_4w_ne {Sh : List zS} {k N : Nat} {j : Nat} {a : zS} (hN : Sh.length = N) (hj : j ≠ k) (h : Sh[j]? = some a) : (zc_TaleHoles_4w Sh k N)[j]? = some a := by
  have hjl : j < N := by rw [← hN]; exact (List.getElem?_eq_some_iff.mp h).1
  unfold zc_TaleHoles_4w
  exact zc_History_ne (zgll (zc_TaleHoles_3_len hN)) (show j ≠ N + 38 by omega) (zga (zc_TaleHoles_3_ne hN hj h))
theorem zc_TaleHoles_4w_ok {Sh : List zS} {k N : Nat} (hN : Sh.length = N) {μ : zM} (hz : ∀ j, N ≤ j → ∀ z, μ j z = 0) : Dz md_0_init [zr (N + 38)] ((zc_TaleHoles_3 Sh k N) ++ [.inl (0, [some none, none])]) μ none (zc_TaleHoles_4w Sh k N) (zc_HistM μ (N + 39)) := zc_History_ok (zgl (zc_TaleHoles_3_len hN)) (zgll (zc_TaleHoles_3_len hN)) (fun j hj => hz j (by omega)) (hz _ (by omega))
def zc_TaleHoles_4 (Sh : List zS) (k N : Nat) : List zS := (zc_TaleHoles_4w Sh k N).set k (.inl (5, [some (some (N)), some (some (N + 2)), some (some (N + 20)), some (some (N + 38)), none]))
theorem zc_TaleHoles_4_len {Sh : List zS} {k N : Nat} (hN : Sh.length = N) : (zc_TaleHoles_4 Sh k N).length = N + 112 := by
  unfold zc_TaleHoles_4
  exact zsl (zc_TaleHoles_4w_len hN)
theorem zc_TaleHoles_4_get {Sh : List zS} {k N : Nat} {a : zS} (hk : Sh[k]? = some a) (hN : Sh.length = N) : (zc_TaleHoles_4 Sh k N)[k]? = some (Sum.inl (5, [some (some (N)), some (some (N + 2)), some (some (N + 20)), some (some (N + 38)), none])) := by
  have hkl : k < N := by rw [← hN]; exact (List.getElem?_eq_some_iff.mp hk).1
  unfold zc_TaleHoles_4
  exact zgs (zc_TaleHoles_4w_get hk hN)
theorem zc_TaleHoles_4_ne {Sh : List zS} {k N : Nat} {j : Nat} {a : zS} (hN : Sh.length = N) (hj : j ≠ k) (h : Sh[j]? = some a) : (zc_TaleHoles_4 Sh k N)[j]? = some a := by
  have hjl : j < N := by rw [← hN]; exact (List.getElem?_eq_some_iff.mp h).1
  unfold zc_TaleHoles_4
  exact zsn hj (zc_TaleHoles_4w_ne hN hj h)
def zc_TaleHoles (Sh : List zS) (k N : Nat) : List zS := (zc_TaleHoles_4 Sh k N)
theorem zc_TaleHoles_len {Sh : List zS} {k N : Nat} (hN : Sh.length = N) : (zc_TaleHoles Sh k N).length = N + 112 := zc_TaleHoles_4_len hN
theorem zc_TaleHoles_get {Sh : List zS} {k N : Nat} {a : zS} (hk : Sh[k]? = some a) (hN : Sh.length = N) : (zc_TaleHoles Sh k N)[k]? = some (Sum.inl (5, [some (some (N)), some (some (N + 2)), some (some (N + 20)), some (some (N + 38)), none])) := by
  have hkl : k < N := by rw [← hN]; exact (List.getElem?_eq_some_iff.mp hk).1
  exact zc_TaleHoles_4_get hk hN
theorem zc_TaleHoles_ne {Sh : List zS} {k N j : Nat} {a : zS} (hN : Sh.length = N) (hj : j ≠ k) (h : Sh[j]? = some a) : (zc_TaleHoles Sh k N)[j]? = some a := by
  have hjl : j < N := by rw [← hN]; exact (List.getElem?_eq_some_iff.mp h).1
  exact zc_TaleHoles_4_ne hN hj h
theorem zc_TaleHoles_ok {Sh : List zS} {k N : Nat} (hk : Sh[k]? = some (Sum.inl (5, [some none, some none, some none, some none, none]))) (hN : Sh.length = N) {μ : zM} (hz : ∀ j, N ≤ j → ∀ z, μ j z = 0) (h0 : ∀ z, μ k z = 0) : Dz md_5_init [zr k] Sh μ none (zc_TaleHoles Sh k N) (zc_HistM μ (N + 39)) := by
  refine Dz.of (by decide) rfl rfl (show Ez md_5_init 0 0 0 [(0, zr k)] [] Sh μ none (zc_TaleHoles Sh k N) (zc_HistM μ (N + 39)) from ?_)
  have hkl : k < N := by rw [← hN]; exact (List.getElem?_eq_some_iff.mp hk).1
  refine Az.blk kd_5_init_0 (show Ez md_5_init 0 0 1 [(0, zr k)] [zr k] Sh μ _ _ _ from ?_)
  refine Az.objInit kr_5_init_1 zw_14 rfl rfl ?_
  refine Az.blk kd_5_init_4 (show Ez md_5_init 0 0 5 [(0, zr k)] [zr k] Sh (μ) _ _ _ from ?_)
  refine Az.newN (ci := 3) (N := 2) (L := N) (fs := [some none, none]) kr_5_init_5 zw_17 zw_18 zw_2 rfl rfl (hN) (hz _ (by omega)) rfl ?_
  refine Az.blk kd_5_init_8 (show Ez md_5_init 1 2 9 [(0, zr k)] [zr (N), zr (N), zr k] (Sh ++ [.inl (3, [some none, none])]) (μ) _ _ _ from ?_)
  refine Az.cINg (mc := md_3_init) (n := 0) (As := []) kr_5_init_9 zw_19 ok_3_init rfl rfl rfl ⟨by decide, by decide⟩ (zc_Text_ok (zgl (hN)) (fun j hj => hz j (by rw [zgll (hN)] at hj; omega)) (hz _ (by omega))) rfl rfl ?_
  refine Az.putrT (r := N) (fs' := [some (some (N)), some none, some none, some none, none]) kr_5_init_12 rfl rfl rfl rfl (zc_Text_ne (show k ≠ N by omega) (zga (hk))) rfl rfl ?_
  refine zt_16 (Y := (zc_TaleHoles_2 Sh k N)) (zc_TaleHoles_2w_get hk hN) (zc_TaleHoles_1_len hN) rfl (hz _ (by omega)) (zc_TaleHoles_2w_ok hN hz) ?_
  refine zt_27 (Y := (zc_TaleHoles_3 Sh k N)) (zc_TaleHoles_3w_get hk hN) (zc_TaleHoles_2_len hN) rfl (hz _ (by omega)) (zc_TaleHoles_3w_ok hN hz) ?_
  refine zt_38 (Y := (zc_TaleHoles_4 Sh k N)) (zc_TaleHoles_4w_get hk hN) (zc_TaleHoles_3_len hN) rfl (hz _ (by omega)) (zc_TaleHoles_4w_ok hN hz) ?_
  refine Az.blk kd_5_init_48 (show Ez md_5_init 112 3212 50 [(0, zr k)] [zi 0, zr k] (zc_TaleHoles_4 Sh k N) (zc_HistM μ (N + 39)) _ _ _ from ?_)
  refine Az.putz (b := 4) kr_5_init_50 rfl rfl rfl (Or.inl rfl) (zc_TaleHoles_4_get hk hN) rfl ?_
  rw [zup_same (by rw [zc_HistM_ne (by omega)]; exact h0 _)]
  exact Ez.vret kr_5_init_53 rfl (Nat.le_refl _) (Nat.le_refl _) rfl rfl
theorem zc_one : zc_TaleHoles [.inl (5, [some none, some none, some none, some none, none])] 0 1 = zSh := by decide +kernel
