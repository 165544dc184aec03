/-! constructors that make objects -/
theorem zob_i {Sh : List zS} {k ci : Nat} {fs : List (Option (Option Nat))} {f : List (Option (Option Nat)) → Prop} (h : Sh[k]? = some (.inl (ci, fs))) (hf : f fs) : zob Sh k ci f := by
  unfold zob
  rw [h]
  dsimp only
  rw [Nat.beq_refl]
  exact hf
theorem zar_i {Sh : List zS} {k t n : Nat} {f : Nat → Prop} (h : Sh[k]? = some (.inr (t, n))) (hn : Nat.ble n 100000 = true) (hf : f n) : zar Sh k t f := by
  unfold zar
  rw [h]
  dsimp only
  rw [Nat.beq_refl, hn]
  exact hf
section ZN
variable {md : zD} {C : zG → Array Value → State → Prop} {F : zG → List Frame → Array Value → State → State → Prop} {cn sn pc : Nat} {lv : zL} {st rest : List zV} {Sh : List zS} {μ : zM} {idx k : Nat}
theorem Az.newN {ci N L : Nat} {fs : List (Option (Option Nat))} (hd : decode md.2.1 pc = .ok (.new idx, 3)) (hcl : Cond.classLink (zcn md.2.2.2.2.2) idx (zcn ci) ∈ wz) (hin : Cond.instantiable (zcn ci) N ∈ wz) (hini : Cond.initialized (zcn ci) ∈ wz) (hN : ((vwCl[ci]?).map fun r => r.2.2) = some N) (hfs : zfd ci fs = true) (hL : Sh.length = L) (h0 : ∀ z, μ L z = 0) (hR : (Nat.ble (cn + 1) md.2.2.2.2.1.cells && Nat.ble (sn + N) md.2.2.2.2.1.slots) = true)
    (kk : Az md C F (cn + 1) (sn + N) (pc + 3) lv (zr L :: st) (Sh ++ [.inl (ci, fs)]) μ) (hi : md.1.name = "<init>" := by rfl) : Az md C F cn sn pc lv st Sh μ := by
  subst hL
  exact Az.new hd hcl hin hini hN hfs h0 hR kk hi
theorem Az.anewN {n L : Nat} (hd : decode md.2.1 pc = .ok (.anewarray idx, 3)) (hcl : Cond.classLink (zcn md.2.2.2.2.2) idx "TaleHoles$State" ∈ wz) (hst : st = zi (n : Int) :: rest) (hn : Nat.ble n 100000 = true) (hL : Sh.length = L) (h0 : ∀ z, μ L z = 0) (hR : (Nat.ble (cn + 1) md.2.2.2.2.1.cells && Nat.ble (sn + n) md.2.2.2.2.1.slots) = true)
    (kk : Az md C F (cn + 1) (sn + n) (pc + 3) lv (zr L :: rest) (Sh ++ [.inr (2, n)]) μ) (hi : md.1.name = "<init>" := by rfl) : Az md C F cn sn pc lv st Sh μ := by
  subst hL
  exact Az.anew hd hcl hst hn h0 hR kk hi
theorem Az.putrT {ci b r : Nat} {fs fs' : List (Option (Option Nat))} (hd : decode md.2.1 pc = .ok (.putfield idx, 3)) (hl : zfl md.2.2.2.2.2 idx = some (ci, b, false)) (hp : zputF ci b md.2.2.2.2.2 = true) (hi : md.1.name = "<init>") (hst : st = zr r :: zr k :: rest) (hk : Sh[k]? = some (.inl (ci, fs))) (hb : Nat.blt b fs.length = true) (hf : fs.set b (some (some r)) = fs')
    (kk : Az md C F cn sn (pc + 3) lv rest (Sh.set k (.inl (ci, fs'))) μ) : Az md C F cn sn pc lv st Sh μ := by
  subst hf
  exact Az.putr hd hl hp hi hst hk hb kk
end ZN

def kb_1_init_0 : List zI := [(.aload_n 0, 1, 0, 0)]
theorem kd_1_init_0 : zdec md_1_init 0 kb_1_init_0 = true := by decide +kernel
theorem kr_1_init_1 : decode md_1_init.2.1 1 = .ok (.invokespecial 3, 3) := by decide +kernel
def kb_1_init_4 : List zI := [(.aload_n 0, 1, 0, 0)]
theorem kd_1_init_4 : zdec md_1_init 4 kb_1_init_4 = true := by decide +kernel
theorem kr_1_init_5 : decode md_1_init.2.1 5 = .ok (.new 9, 3) := by decide +kernel
def kb_1_init_8 : List zI := [(.dup, 1, 0, 0)]
theorem kd_1_init_8 : zdec md_1_init 8 kb_1_init_8 = true := by decide +kernel
theorem kr_1_init_9 : decode md_1_init.2.1 9 = .ok (.invokespecial 11, 3) := by decide +kernel
theorem kr_1_init_12 : decode md_1_init.2.1 12 = .ok (.putfield 12, 3) := by decide +kernel
def kb_1_init_15 : List zI := [(.aload_n 0, 1, 0, 0)]
theorem kd_1_init_15 : zdec md_1_init 15 kb_1_init_15 = true := by decide +kernel
theorem kr_1_init_16 : decode md_1_init.2.1 16 = .ok (.new 18, 3) := by decide +kernel
def kb_1_init_19 : List zI := [(.dup, 1, 0, 0)]
theorem kd_1_init_19 : zdec md_1_init 19 kb_1_init_19 = true := by decide +kernel
theorem kr_1_init_20 : decode md_1_init.2.1 20 = .ok (.invokespecial 20, 3) := by decide +kernel
theorem kr_1_init_23 : decode md_1_init.2.1 23 = .ok (.putfield 21, 3) := by decide +kernel
def kb_1_init_26 : List zI := [(.aload_n 0, 1, 0, 0), (.bipush 10, 2, 0, 0)]
theorem kd_1_init_26 : zdec md_1_init 26 kb_1_init_26 = true := by decide +kernel
theorem kr_1_init_29 : decode md_1_init.2.1 29 = .ok (.newarray .int, 2) := by decide +kernel
theorem kr_1_init_31 : decode md_1_init.2.1 31 = .ok (.putfield 25, 3) := by decide +kernel
def kb_1_init_34 : List zI := [(.aload_n 0, 1, 0, 0), (.bipush 10, 2, 0, 0)]
theorem kd_1_init_34 : zdec md_1_init 34 kb_1_init_34 = true := by decide +kernel
theorem kr_1_init_37 : decode md_1_init.2.1 37 = .ok (.newarray .int, 2) := by decide +kernel
theorem kr_1_init_39 : decode md_1_init.2.1 39 = .ok (.putfield 29, 3) := by decide +kernel
def kb_1_init_42 : List zI := [(.aload_n 0, 1, 0, 0), (.iconst 0, 1, 0, 0)]
theorem kd_1_init_42 : zdec md_1_init 42 kb_1_init_42 = true := by decide +kernel
theorem kr_1_init_44 : decode md_1_init.2.1 44 = .ok (.putfield 32, 3) := by decide +kernel
def kb_1_init_47 : List zI := [(.aload_n 0, 1, 0, 0), (.iconst 0, 1, 0, 0)]
theorem kd_1_init_47 : zdec md_1_init 47 kb_1_init_47 = true := by decide +kernel
theorem kr_1_init_49 : decode md_1_init.2.1 49 = .ok (.putfield 36, 3) := by decide +kernel
theorem kr_1_init_52 : decode md_1_init.2.1 52 = .ok (.return_, 1) := by decide +kernel
def zc_State_1 (Sh : List zS) (k N : Nat) : List zS := ((zc_Words ((Sh ++ [.inl (4, [none, some none, some none, some none, some none, some none])])) (N) (N + 1))).set k (.inl (1, [some (some (N)), some none, some none, some none, none, none]))
theorem zc_State_1_len {Sh : List zS} {k N : Nat} (hN : Sh.length = N) : (zc_State_1 Sh k N).length = N + 6 := by
  unfold zc_State_1
  exact zsl (zc_Words_len (zgll (hN)))
theorem zc_State_1_get {Sh : List zS} {k N : Nat} {a : zS} (hk : Sh[k]? = some a) (hN : Sh.length = N) : (zc_State_1 Sh k N)[k]? = some (Sum.inl (1, [some (some (N)), some none, some none, some none, none, none])) := by
  have hkl : k < N := by rw [← hN]; exact (List.getElem?_eq_some_iff.mp hk).1
  unfold zc_State_1
  exact zgs (zc_Words_ne (show k ≠ N by omega) (zga (hk)))
theorem zc_State_1_ne {Sh : List zS} {k N : Nat} {j : Nat} {a : zS} (hN : Sh.length = N) (hj : j ≠ k) (h : Sh[j]? = some a) : (zc_State_1 Sh k N)[j]? = some a := by
  have hjl : j < N := by rw [← hN]; exact (List.getElem?_eq_some_iff.mp h).1
  unfold zc_State_1
  exact zsn hj (zc_Words_ne (show j ≠ N by omega) (zga (h)))
def zc_State_2 (Sh : List zS) (k N : Nat) : List zS := ((zc_Tale (((zc_State_1 Sh k N) ++ [.inl (2, [none, none, some none, some none, some none, some none, some none, some none, some none, some none])])) (N + 6) (N + 7))).set k (.inl (1, [some (some (N)), some (some (N + 6)), some none, some none, none, none]))
theorem zc_State_2_len {Sh : List zS} {k N : Nat} (hN : Sh.length = N) : (zc_State_2 Sh k N).length = N + 15 := by
  unfold zc_State_2
  exact zsl (zc_Tale_len (zgll (zc_State_1_len hN)))
theorem zc_State_2_get {Sh : List zS} {k N : Nat} {a : zS} (hk : Sh[k]? = some a) (hN : Sh.length = N) : (zc_State_2 Sh k N)[k]? = some (Sum.inl (1, [some (some (N)), some (some (N + 6)), some none, some none, none, none])) := by
  have hkl : k < N := by rw [← hN]; exact (List.getElem?_eq_some_iff.mp hk).1
  unfold zc_State_2
  exact zgs (zc_Tale_ne (show k ≠ N + 6 by omega) (zga (zc_State_1_get hk hN)))
theorem zc_State_2_ne {Sh : List zS} {k N : Nat} {j : Nat} {a : zS} (hN : Sh.length = N) (hj : j ≠ k) (h : Sh[j]? = some a) : (zc_State_2 Sh k N)[j]? = some a := by
  have hjl : j < N := by rw [← hN]; exact (List.getElem?_eq_some_iff.mp h).1
  unfold zc_State_2
  exact zsn hj (zc_Tale_ne (show j ≠ N + 6 by omega) (zga (zc_State_1_ne hN hj h)))
def zc_State_3 (Sh : List zS) (k N : Nat) : List zS := zmk (zc_State_2 Sh k N) k (.inr (0, 10)) 1 [some (some (N)), some (some (N + 6)), some (some (N + 15)), some none, none, none]
theorem zc_State_3_len {Sh : List zS} {k N : Nat} (hN : Sh.length = N) : (zc_State_3 Sh k N).length = N + 16 := by
  unfold zc_State_3
  exact zmk_len (zc_State_2_len hN)
theorem zc_State_3_get {Sh : List zS} {k N : Nat} {a : zS} (hk : Sh[k]? = some a) (hN : Sh.length = N) : (zc_State_3 Sh k N)[k]? = some (Sum.inl (1, [some (some (N)), some (some (N + 6)), some (some (N + 15)), some none, none, none])) := by
  have hkl : k < N := by rw [← hN]; exact (List.getElem?_eq_some_iff.mp hk).1
  unfold zc_State_3
  exact zmk_get (zc_State_2_get hk hN)
theorem zc_State_3_ne {Sh : List zS} {k N : Nat} {j : Nat} {a : zS} (hN : Sh.length = N) (hj : j ≠ k) (h : Sh[j]? = some a) : (zc_State_3 Sh k N)[j]? = some a := by
  have hjl : j < N := by rw [← hN]; exact (List.getElem?_eq_some_iff.mp h).1
  unfold zc_State_3
  exact zmk_ne hj (zc_State_2_ne hN hj h)
def zc_State_4 (Sh : List zS) (k N : Nat) : List zS := zmk (zc_State_3 Sh k N) k (.inr (0, 10)) 1 [some (some (N)), some (some (N + 6)), some (some (N + 15)), some (some (N + 16)), none, none]
theorem zc_State_4_len {Sh : List zS} {k N : Nat} (hN : Sh.length = N) : (zc_State_4 Sh k N).length = N + 17 := by
  unfold zc_State_4
  exact zmk_len (zc_State_3_len hN)
theorem zc_State_4_get {Sh : List zS} {k N : Nat} {a : zS} (hk : Sh[k]? = some a) (hN : Sh.length = N) : (zc_State_4 Sh k N)[k]? = some (Sum.inl (1, [some (some (N)), some (some (N + 6)), some (some (N + 15)), some (some (N + 16)), none, none])) := by
  have hkl : k < N := by rw [← hN]; exact (List.getElem?_eq_some_iff.mp hk).1
  unfold zc_State_4
  exact zmk_get (zc_State_3_get hk hN)
theorem zc_State_4_ne {Sh : List zS} {k N : Nat} {j : Nat} {a : zS} (hN : Sh.length = N) (hj : j ≠ k) (h : Sh[j]? = some a) : (zc_State_4 Sh k N)[j]? = some a := by
  have hjl : j < N := by rw [← hN]; exact (List.getElem?_eq_some_iff.mp h).1
  unfold zc_State_4
  exact zmk_ne hj (zc_State_3_ne hN hj h)
def zc_State (Sh : List zS) (k N : Nat) : List zS := (zc_State_4 Sh k N)
theorem zc_State_len {Sh : List zS} {k N : Nat} (hN : Sh.length = N) : (zc_State Sh k N).length = N + 17 := zc_State_4_len hN
theorem zc_State_get {Sh : List zS} {k N : Nat} {a : zS} (hk : Sh[k]? = some a) (hN : Sh.length = N) : (zc_State Sh k N)[k]? = some (Sum.inl (1, [some (some (N)), some (some (N + 6)), some (some (N + 15)), some (some (N + 16)), none, none])) := by
  have hkl : k < N := by rw [← hN]; exact (List.getElem?_eq_some_iff.mp hk).1
  exact zc_State_4_get hk hN
theorem zc_State_ne {Sh : List zS} {k N j : Nat} {a : zS} (hN : Sh.length = N) (hj : j ≠ k) (h : Sh[j]? = some a) : (zc_State Sh k N)[j]? = some a := by
  have hjl : j < N := by rw [← hN]; exact (List.getElem?_eq_some_iff.mp h).1
  exact zc_State_4_ne hN hj h
theorem zc_State_ok {Sh : List zS} {k N : Nat} (hk : Sh[k]? = some (Sum.inl (1, [some none, some none, some none, some none, none, none]))) (hN : Sh.length = N) {μ : zM} (hz : ∀ j, N ≤ j → ∀ z, μ j z = 0) (h0 : ∀ z, μ k z = 0) : Dz md_1_init [zr k] Sh μ none (zc_State Sh k N) (μ) := by
  refine Dz.of (by decide) rfl rfl (show Ez md_1_init 0 0 0 [(0, zr k)] [] Sh μ none (zc_State Sh k N) (μ) from ?_)
  have hkl : k < N := by rw [← hN]; exact (List.getElem?_eq_some_iff.mp hk).1
  refine Az.blk kd_1_init_0 (show Ez md_1_init 0 0 1 [(0, zr k)] [zr k] Sh μ _ _ _ from ?_)
  refine Az.objInit kr_1_init_1 zw_39 rfl rfl ?_
  refine Az.blk kd_1_init_4 (show Ez md_1_init 0 0 5 [(0, zr k)] [zr k] Sh (μ) _ _ _ from ?_)
  refine Az.newN (ci := 4) (N := 6) (L := N) (fs := [none, some none, some none, some none, some none, some none]) kr_1_init_5 zw_40 zw_41 zw_4 rfl rfl (hN) (hz _ (by omega)) rfl ?_
  refine Az.blk kd_1_init_8 (show Ez md_1_init 1 6 9 [(0, zr k)] [zr (N), zr (N), zr k] (Sh ++ [.inl (4, [none, some none, some none, some none, some none, some none])]) (μ) _ _ _ from ?_)
  refine Az.cINg (mc := md_4_init) (n := 0) (As := []) kr_1_init_9 zw_42 ok_4_init rfl rfl rfl ⟨by decide, by decide⟩ (zc_Words_ok (zgl (hN)) (zgll (hN)) (fun j hj => hz j (by omega)) (hz _ (by omega))) rfl rfl ?_
  refine Az.putrT (r := N) (fs' := [some (some (N)), some none, some none, some none, none, none]) kr_1_init_12 rfl rfl rfl rfl (zc_Words_ne (show k ≠ N by omega) (zga (hk))) rfl rfl ?_
  refine Az.blk kd_1_init_15 (show Ez md_1_init 6 288 16 [(0, zr k)] [zr k] (zc_State_1 Sh k N) (μ) _ _ _ from ?_)
  refine Az.newN (ci := 2) (N := 10) (L := N + 6) (fs := [none, none, some none, some none, some none, some none, some none, some none, some none, some none]) kr_1_init_16 zw_68 zw_69 zw_5 rfl rfl (zc_State_1_len hN) (hz _ (by omega)) rfl ?_
  refine Az.blk kd_1_init_19 (show Ez md_1_init 7 298 20 [(0, zr k)] [zr (N + 6), zr (N + 6), zr k] ((zc_State_1 Sh k N) ++ [.inl (2, [none, none, some none, some none, some none, some none, some none, some none, some none, some none])]) (μ) _ _ _ from ?_)
  refine Az.cINg (mc := md_2_init) (n := 0) (As := []) kr_1_init_20 zw_70 ok_2_init rfl rfl rfl ⟨by decide, by decide⟩ (zc_Tale_ok (zgl (zc_State_1_len hN)) (zgll (zc_State_1_len hN)) (fun j hj => hz j (by omega)) (hz _ (by omega))) rfl rfl ?_
  refine Az.putrT (r := N + 6) (fs' := [some (some (N)), some (some (N + 6)), some none, some none, none, none]) kr_1_init_23 rfl rfl rfl rfl (zc_Tale_ne (show k ≠ N + 6 by omega) (zga (zc_State_1_get hk hN))) rfl rfl ?_
  refine Az.blk kd_1_init_26 (show Ez md_1_init 15 498 29 [(0, zr k)] [zi 10, zr k] (zc_State_2 Sh k N) μ _ _ _ from ?_)
  refine Az.newiPut (n := 10) (N := N + 15) kr_1_init_29 kr_1_init_31 rfl rfl (zc_State_2_len hN) (hz _ (by omega)) rfl rfl rfl rfl (zc_State_2_get hk hN) rfl rfl ?_
  refine Az.blk kd_1_init_34 (show Ez md_1_init 16 508 37 [(0, zr k)] [zi 10, zr k] (zc_State_3 Sh k N) μ _ _ _ from ?_)
  refine Az.newiPut (n := 10) (N := N + 16) kr_1_init_37 kr_1_init_39 rfl rfl (zc_State_3_len hN) (hz _ (by omega)) rfl rfl rfl rfl (zc_State_3_get hk hN) rfl rfl ?_
  refine Az.blk kd_1_init_42 (show Ez md_1_init 17 518 44 [(0, zr k)] [zi 0, zr k] (zc_State_4 Sh k N) (μ) _ _ _ from ?_)
  refine Az.puti (b := 4) kr_1_init_44 rfl rfl rfl (zc_State_4_get hk hN) rfl ?_
  rw [zup_same (h0 _)]
  refine Az.blk kd_1_init_47 (show Ez md_1_init 17 518 49 [(0, zr k)] [zi 0, zr k] (zc_State_4 Sh k N) (μ) _ _ _ from ?_)
  refine Az.puti (b := 5) kr_1_init_49 rfl rfl rfl (zc_State_4_get hk hN) rfl ?_
  rw [zup_same (h0 _)]
  exact Ez.vret kr_1_init_52 rfl (Nat.le_refl _) (Nat.le_refl _) rfl rfl
