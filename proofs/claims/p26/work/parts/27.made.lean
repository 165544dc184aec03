/-! constructors: what they make -/
theorem zgs {Sh : List zS} {k : Nat} {a b : zS} (h : Sh[k]? = some a) : (Sh.set k b)[k]? = some b := by
  obtain ⟨hl, -⟩ := List.getElem?_eq_some_iff.mp h
  rw [List.getElem?_set_self hl]
theorem zga {Sh L : List zS} {k : Nat} {a : zS} (h : Sh[k]? = some a) : (Sh ++ L)[k]? = some a := by
  obtain ⟨hl, -⟩ := List.getElem?_eq_some_iff.mp h
  rw [List.getElem?_append_left hl]; exact h
theorem zup_same {μ : zM} {k : Nat} {z v : Int} (h : μ k z = v) : zup μ k z v = μ := by
  funext k' z'
  rw [zup_ap]
  split
  · next e => obtain ⟨rfl, rfl⟩ := e; exact h.symm
  · rfl
def zc_Text (Sh : List zS) (k : Nat) : List zS := (Sh ++ [(Sum.inr (1, 60) : zS)]).set k (Sum.inl (3, [some (some Sh.length), none]))
theorem kr_3_init_1 : decode md_3_init.2.1 1 = .ok (.invokespecial 3, 3) := by decide +kernel
def kb_3_init_0 : List zI := [(.aload_n 0, 1, 0, 0)]
theorem kd_3_init_0 : zdec md_3_init 0 kb_3_init_0 = true := by decide +kernel
section ZN
variable {md : zD} {C : zG → Array Value → State → Prop} {F : zG → List Frame → Array Value → State → State → Prop} {cn sn pc : Nat} {lv : zL} {st rest : List zV} {Sh : List zS} {μ : zM} {idx k : Nat}
theorem Az.puti {ci b : Nat} {v : Int} {fs : List (Option (Option Nat))} (hd : decode md.2.1 pc = .ok (.putfield idx, 3)) (hl : zfl md.2.2.2.2.2 idx = some (ci, b, false)) (hp : zput ci b = true) (hst : st = zi v :: zr k :: rest) (hk : Sh[k]? = some (.inl (ci, fs))) (hb : fs[b]? = some none)
    (kk : Az md C F cn sn (pc + 3) lv rest Sh (zup μ k (b : Int) v)) : Az md C F cn sn pc lv st Sh μ := by
  subst hst
  intro G p l e s m args below meth c hX hC H locs ls hw hS hls
  have hX' := hX
  obtain ⟨hx, hcd, hml, hown, hts, hret, hlk, hKK, hname⟩ := hX'
  obtain ⟨q, hc, hbn, hlf, -⟩ := zfl_ok hl
  dsimp only at hc hbn hlf
  unfold zput at hp
  rw [hc] at hp
  dsimp only at hp
  rw [Bool.and_eq_true, Bool.not_eq_true', decide_eq_true_eq] at hp
  obtain ⟨hfin, hdesc⟩ := hp
  have hP := hw.one hk
  have hK := hKK.1
  have hin := zlays hc
  obtain ⟨⟨ty0, hty⟩, hnm⟩ := ztys hc
  have hap := va_apart (own := zcn md.2.2.2.2.2) hts hin ty0 hty hnm hK hc
  obtain ⟨q', h1, cell, q1, q2, q3, q4⟩ := hP 0 _ rfl
  have hrr : q' = q := Option.some.inj (h1.symm.trans hc)
  subst hrr
  obtain ⟨hSl, hfc, kC, hkC, hkind⟩ := hK.1 ci _ hc
  obtain ⟨cf, kf, fi, f, hi2, hsl⟩ := hSl b hbn
  have hlay := hts _ (hin _ (u_in_lay hbn))
  unfold u_lay at hlay
  rw [if_neg (by rw [hfin]; decide)] at hlay
  have hst := (u_facts hfc hkC (u_lays hts hin hbn) hi2).1
  have h6 : k2_Sd s f (G.2.1.1 ci) (.int (Int32.ofInt v)) := u_store hfc hkC hkind hlay hi2 hdesc rfl rfl
  refine W.putK hx hcd (f := f) ⟨hown, hts _ (hlf rfl), ⟨_, _, _, hi2⟩, hst⟩ (by rw [q2]; exact h6) q1 q3 (by rw [hsl]; exact k2_hasslot (q4 b hbn)) rfl rfl hd fun H' e1 e2 e3 => ?_
  refine kk G p l e s m args below meth c hX hC H' _ ls (hw.upd hk e2 e3 (fun k' h => zup_ne h) ?_) (hS.put e2 e3 (hw.fr hk)) hls
  rw [hsl] at e1
  refine ⟨q', hc, ?_⟩
  have hob : t_OB (G.1 + k) (G.2.1.1 ci) q'.2.2 (G.2.1.2 ci) H' (updV (vp_V (zfs G.1 (μ k) 0 fs)) b (.int (Int32.ofInt v))) := ⟨_, e1, q2, q3, t_set q4 hap hbn _⟩
  refine hob.to (fun j _ => ?_)
  rw [zup_eq]
  exact zfs_set G.1 (μ k) fs v hb j
end ZN
def kb_3_init_4 : List zI := [(.aload_n 0, 1, 0, 0), (.bipush 60, 2, 0, 0)]
theorem kd_3_init_4 : zdec md_3_init 4 kb_3_init_4 = true := by decide +kernel
theorem kr_3_init_7 : decode md_3_init.2.1 7 = .ok (.newarray .char, 2) := by decide +kernel
theorem kr_3_init_9 : decode md_3_init.2.1 9 = .ok (.putfield 9, 3) := by decide +kernel
def kb_3_init_12 : List zI := [(.aload_n 0, 1, 0, 0), (.iconst 0, 1, 0, 0)]
theorem kd_3_init_12 : zdec md_3_init 12 kb_3_init_12 = true := by decide +kernel
theorem kr_3_init_14 : decode md_3_init.2.1 14 = .ok (.putfield 15, 3) := by decide +kernel
theorem kr_3_init_17 : decode md_3_init.2.1 17 = .ok (.return_, 1) := by decide +kernel
theorem zc_Text_ok {Sh : List zS} {μ : zM} {k : Nat} (hk : Sh[k]? = some (Sum.inl (3, [some none, none]))) (hz : ∀ j, Sh.length ≤ j → ∀ z, μ j z = 0) (h0 : ∀ z, μ k z = 0) : Dz md_3_init [zr k] Sh μ none (zc_Text Sh k) μ := by
  refine Dz.of (by decide) rfl rfl (show Ez md_3_init 0 0 0 [(0, zr k)] [] Sh μ none (zc_Text Sh k) μ from ?_)
  refine Az.blk kd_3_init_0 (show Ez md_3_init 0 0 1 [(0, zr k)] [zr k] Sh μ _ _ _ from ?_)
  refine Az.objInit kr_3_init_1 zy_objL_3 rfl rfl ?_
  refine Az.blk kd_3_init_4 (show Ez md_3_init 0 0 7 [(0, zr k)] [zi 60, zr k] Sh μ _ _ _ from ?_)
  refine Az.newc (n := 60) kr_3_init_7 rfl rfl (hz _ (Nat.le_refl _)) rfl ?_
  refine Az.putr kr_3_init_9 rfl rfl rfl rfl (zga hk) rfl ?_
  refine Az.blk kd_3_init_12 (show Ez md_3_init 1 60 14 [(0, zr k)] [zi 0, zr k] (zc_Text Sh k) μ _ _ _ from ?_)
  refine Az.puti (b := 1) kr_3_init_14 rfl rfl rfl (zgs (zga hk)) rfl ?_
  rw [zup_same (h0 _)]
  exact Ez.vret kr_3_init_17 rfl (Nat.le_refl _) (Nat.le_refl _) rfl rfl
/-! an object with one thing more -/
def zmk (Sh : List zS) (k : Nat) (sp : zS) (ci : Nat) (fs : List (Option (Option Nat))) : List zS := (Sh ++ [sp]).set k (Sum.inl (ci, fs))
theorem zmk_len {Sh : List zS} {k N ci : Nat} {sp : zS} {fs : List (Option (Option Nat))} (h : Sh.length = N) : (zmk Sh k sp ci fs).length = N + 1 := by simp [zmk, h]
theorem zmk_get {Sh : List zS} {k ci : Nat} {sp a : zS} {fs : List (Option (Option Nat))} (h : Sh[k]? = some a) : (zmk Sh k sp ci fs)[k]? = some (Sum.inl (ci, fs)) := zgs (zga h)
theorem zmk_ne {Sh : List zS} {k j ci : Nat} {sp a : zS} {fs : List (Option (Option Nat))} (hj : j ≠ k) (h : Sh[j]? = some a) : (zmk Sh k sp ci fs)[j]? = some a := by
  unfold zmk
  rw [List.getElem?_set_ne (Ne.symm hj)]
  exact zga h
theorem zgl {Sh : List zS} {a : zS} {N : Nat} (h : Sh.length = N) : (Sh ++ [a])[N]? = some a := by
  subst h
  simp
theorem zgll {Sh : List zS} {a : zS} {N : Nat} (h : Sh.length = N) : (Sh ++ [a]).length = N + 1 := by simp [h]
theorem zsl {Sh : List zS} {k : Nat} {a : zS} {N : Nat} (h : Sh.length = N) : (Sh.set k a).length = N := by simp [h]
theorem zsn {Sh : List zS} {k j : Nat} {a b : zS} (hj : j ≠ k) (h : Sh[j]? = some a) : (Sh.set k b)[j]? = some a := by
  rw [List.getElem?_set_ne (Ne.symm hj)]
  exact h
section ZN
variable {md : zD} {C : zG → Array Value → State → Prop} {F : zG → List Frame → Array Value → State → State → Prop} {cn sn pc : Nat} {lv : zL} {st rest : List zV} {Sh : List zS} {μ : zM} {idx k : Nat}
theorem Az.newiPut {n ci b N : Nat} {fs fs' : List (Option (Option Nat))} (hd : decode md.2.1 pc = .ok (.newarray .int, 2)) (hd2 : decode md.2.1 (pc + 2) = .ok (.putfield idx, 3)) (hst : st = zi (n : Int) :: zr k :: rest) (hn : Nat.ble n 100000 = true) (hN : Sh.length = N) (h0 : ∀ z, μ N z = 0) (hR : (Nat.ble (cn + 1) md.2.2.2.2.1.cells && Nat.ble (sn + n) md.2.2.2.2.1.slots) = true)
    (hl : zfl md.2.2.2.2.2 idx = some (ci, b, false)) (hp : zputF ci b md.2.2.2.2.2 = true) (hi : md.1.name = "<init>") (hk : Sh[k]? = some (.inl (ci, fs))) (hb : Nat.blt b fs.length = true) (hf : fs.set b (some (some N)) = fs')
    (kk : Az md C F (cn + 1) (sn + n) (pc + 5) lv rest (zmk Sh k (.inr (0, n)) ci fs') μ) : Az md C F cn sn pc lv st Sh μ := by
  subst hN hf
  refine Az.newi hd hst hn h0 hR ?_ hi
  exact Az.putr hd2 hl hp hi rfl (zga hk) hb kk
end ZN

def kb_4_init_0 : List zI := [(.aload_n 0, 1, 0, 0)]
theorem kd_4_init_0 : zdec md_4_init 0 kb_4_init_0 = true := by decide +kernel
theorem kr_4_init_1 : decode md_4_init.2.1 1 = .ok (.invokespecial 3, 3) := by decide +kernel
def kb_4_init_4 : List zI := [(.aload_n 0, 1, 0, 0), (.iconst 0, 1, 0, 0)]
theorem kd_4_init_4 : zdec md_4_init 4 kb_4_init_4 = true := by decide +kernel
theorem kr_4_init_6 : decode md_4_init.2.1 6 = .ok (.putfield 9, 3) := by decide +kernel
def kb_4_init_9 : List zI := [(.aload_n 0, 1, 0, 0), (.bipush 24, 2, 0, 0)]
theorem kd_4_init_9 : zdec md_4_init 9 kb_4_init_9 = true := by decide +kernel
theorem kr_4_init_12 : decode md_4_init.2.1 12 = .ok (.newarray .int, 2) := by decide +kernel
theorem kr_4_init_14 : decode md_4_init.2.1 14 = .ok (.putfield 15, 3) := by decide +kernel
def kb_4_init_17 : List zI := [(.aload_n 0, 1, 0, 0), (.bipush 24, 2, 0, 0)]
theorem kd_4_init_17 : zdec md_4_init 17 kb_4_init_17 = true := by decide +kernel
theorem kr_4_init_20 : decode md_4_init.2.1 20 = .ok (.newarray .int, 2) := by decide +kernel
theorem kr_4_init_22 : decode md_4_init.2.1 22 = .ok (.putfield 19, 3) := by decide +kernel
def kb_4_init_25 : List zI := [(.aload_n 0, 1, 0, 0), (.bipush 24, 2, 0, 0)]
theorem kd_4_init_25 : zdec md_4_init 25 kb_4_init_25 = true := by decide +kernel
theorem kr_4_init_28 : decode md_4_init.2.1 28 = .ok (.newarray .int, 2) := by decide +kernel
theorem kr_4_init_30 : decode md_4_init.2.1 30 = .ok (.putfield 22, 3) := by decide +kernel
def kb_4_init_33 : List zI := [(.aload_n 0, 1, 0, 0), (.sipush 192, 3, 0, 0)]
theorem kd_4_init_33 : zdec md_4_init 33 kb_4_init_33 = true := by decide +kernel
theorem kr_4_init_37 : decode md_4_init.2.1 37 = .ok (.newarray .int, 2) := by decide +kernel
theorem kr_4_init_39 : decode md_4_init.2.1 39 = .ok (.putfield 25, 3) := by decide +kernel
def kb_4_init_42 : List zI := [(.aload_n 0, 1, 0, 0), (.bipush 18, 2, 0, 0)]
theorem kd_4_init_42 : zdec md_4_init 42 kb_4_init_42 = true := by decide +kernel
theorem kr_4_init_45 : decode md_4_init.2.1 45 = .ok (.newarray .int, 2) := by decide +kernel
theorem kr_4_init_47 : decode md_4_init.2.1 47 = .ok (.putfield 28, 3) := by decide +kernel
theorem kr_4_init_50 : decode md_4_init.2.1 50 = .ok (.return_, 1) := by decide +kernel
def zc_Words_1 (Sh : List zS) (k N : Nat) : List zS := zmk (Sh) k (.inr (0, 24)) 4 [none, some (some (N)), some none, some none, some none, some none]
def zc_Words_2 (Sh : List zS) (k N : Nat) : List zS := zmk (zc_Words_1 Sh k N) k (.inr (0, 24)) 4 [none, some (some (N)), some (some (N + 1)), some none, some none, some none]
def zc_Words_3 (Sh : List zS) (k N : Nat) : List zS := zmk (zc_Words_2 Sh k N) k (.inr (0, 24)) 4 [none, some (some (N)), some (some (N + 1)), some (some (N + 2)), some none, some none]
def zc_Words_4 (Sh : List zS) (k N : Nat) : List zS := zmk (zc_Words_3 Sh k N) k (.inr (0, 192)) 4 [none, some (some (N)), some (some (N + 1)), some (some (N + 2)), some (some (N + 3)), some none]
def zc_Words_5 (Sh : List zS) (k N : Nat) : List zS := zmk (zc_Words_4 Sh k N) k (.inr (0, 18)) 4 [none, some (some (N)), some (some (N + 1)), some (some (N + 2)), some (some (N + 3)), some (some (N + 4))]
def zc_Words (Sh : List zS) (k N : Nat) : List zS := zc_Words_5 Sh k N
theorem zc_Words_len {Sh : List zS} {k N : Nat} (hN : Sh.length = N) : (zc_Words Sh k N).length = N + 5 := zmk_len (zmk_len (zmk_len (zmk_len (zmk_len (hN)))))
theorem zc_Words_get {Sh : List zS} {k N : Nat} {a : zS} (hk : Sh[k]? = some a) : (zc_Words Sh k N)[k]? = some (Sum.inl (4, [none, some (some (N)), some (some (N + 1)), some (some (N + 2)), some (some (N + 3)), some (some (N + 4))])) := zmk_get (zmk_get (zmk_get (zmk_get (zmk_get (hk)))))
theorem zc_Words_ne {Sh : List zS} {k N j : Nat} {a : zS} (hj : j ≠ k) (h : Sh[j]? = some a) : (zc_Words Sh k N)[j]? = some a := zmk_ne hj (zmk_ne hj (zmk_ne hj (zmk_ne hj (zmk_ne hj (h)))))
theorem zc_Words_ok {Sh : List zS} {k N : Nat} (hk : Sh[k]? = some (Sum.inl (4, [none, some none, some none, some none, some none, some none]))) (hN : Sh.length = N) {μ : zM} (hz : ∀ j, N ≤ j → ∀ z, μ j z = 0) (h0 : ∀ z, μ k z = 0) : Dz md_4_init [zr k] Sh μ none (zc_Words Sh k N) μ := by
  refine Dz.of (by decide) rfl rfl (show Ez md_4_init 0 0 0 [(0, zr k)] [] Sh μ none (zc_Words Sh k N) μ from ?_)
  refine Az.blk kd_4_init_0 (show Ez md_4_init 0 0 1 [(0, zr k)] [zr k] Sh μ _ _ _ from ?_)
  refine Az.objInit kr_4_init_1 zw_45 rfl rfl ?_
  refine Az.blk kd_4_init_4 (show Ez md_4_init 0 0 6 [(0, zr k)] [zi 0, zr k] (Sh) μ _ _ _ from ?_)
  refine Az.puti (b := 0) kr_4_init_6 rfl rfl rfl (hk) rfl ?_
  rw [zup_same (h0 _)]
  refine Az.blk kd_4_init_9 (show Ez md_4_init 0 0 12 [(0, zr k)] [zi 24, zr k] (Sh) μ _ _ _ from ?_)
  refine Az.newiPut (n := 24) (N := N) kr_4_init_12 kr_4_init_14 rfl rfl (hN) (hz _ (by omega)) rfl rfl rfl rfl (hk) rfl rfl ?_
  refine Az.blk kd_4_init_17 (show Ez md_4_init 1 24 20 [(0, zr k)] [zi 24, zr k] (zc_Words_1 Sh k N) μ _ _ _ from ?_)
  refine Az.newiPut (n := 24) (N := N + 1) kr_4_init_20 kr_4_init_22 rfl rfl (zmk_len (hN)) (hz _ (by omega)) rfl rfl rfl rfl (zmk_get (hk)) rfl rfl ?_
  refine Az.blk kd_4_init_25 (show Ez md_4_init 2 48 28 [(0, zr k)] [zi 24, zr k] (zc_Words_2 Sh k N) μ _ _ _ from ?_)
  refine Az.newiPut (n := 24) (N := N + 2) kr_4_init_28 kr_4_init_30 rfl rfl (zmk_len (zmk_len (hN))) (hz _ (by omega)) rfl rfl rfl rfl (zmk_get (zmk_get (hk))) rfl rfl ?_
  refine Az.blk kd_4_init_33 (show Ez md_4_init 3 72 37 [(0, zr k)] [zi 192, zr k] (zc_Words_3 Sh k N) μ _ _ _ from ?_)
  refine Az.newiPut (n := 192) (N := N + 3) kr_4_init_37 kr_4_init_39 rfl rfl (zmk_len (zmk_len (zmk_len (hN)))) (hz _ (by omega)) rfl rfl rfl rfl (zmk_get (zmk_get (zmk_get (hk)))) rfl rfl ?_
  refine Az.blk kd_4_init_42 (show Ez md_4_init 4 264 45 [(0, zr k)] [zi 18, zr k] (zc_Words_4 Sh k N) μ _ _ _ from ?_)
  refine Az.newiPut (n := 18) (N := N + 4) kr_4_init_45 kr_4_init_47 rfl rfl (zmk_len (zmk_len (zmk_len (zmk_len (hN))))) (hz _ (by omega)) rfl rfl rfl rfl (zmk_get (zmk_get (zmk_get (zmk_get (hk))))) rfl rfl ?_
  exact Ez.vret kr_4_init_50 rfl (Nat.le_refl _) (Nat.le_refl _) rfl rfl
def kb_2_init_0 : List zI := [(.aload_n 0, 1, 0, 0)]
theorem kd_2_init_0 : zdec md_2_init 0 kb_2_init_0 = true := by decide +kernel
theorem kr_2_init_1 : decode md_2_init.2.1 1 = .ok (.invokespecial 3, 3) := by decide +kernel
def kb_2_init_4 : List zI := [(.aload_n 0, 1, 0, 0), (.iconst 0, 1, 0, 0)]
theorem kd_2_init_4 : zdec md_2_init 4 kb_2_init_4 = true := by decide +kernel
theorem kr_2_init_6 : decode md_2_init.2.1 6 = .ok (.putfield 9, 3) := by decide +kernel
def kb_2_init_9 : List zI := [(.aload_n 0, 1, 0, 0), (.iconst 0, 1, 0, 0)]
theorem kd_2_init_9 : zdec md_2_init 9 kb_2_init_9 = true := by decide +kernel
theorem kr_2_init_11 : decode md_2_init.2.1 11 = .ok (.putfield 15, 3) := by decide +kernel
def kb_2_init_14 : List zI := [(.aload_n 0, 1, 0, 0), (.bipush 20, 2, 0, 0)]
theorem kd_2_init_14 : zdec md_2_init 14 kb_2_init_14 = true := by decide +kernel
theorem kr_2_init_17 : decode md_2_init.2.1 17 = .ok (.newarray .int, 2) := by decide +kernel
theorem kr_2_init_19 : decode md_2_init.2.1 19 = .ok (.putfield 18, 3) := by decide +kernel
def kb_2_init_22 : List zI := [(.aload_n 0, 1, 0, 0), (.bipush 20, 2, 0, 0)]
theorem kd_2_init_22 : zdec md_2_init 22 kb_2_init_22 = true := by decide +kernel
theorem kr_2_init_25 : decode md_2_init.2.1 25 = .ok (.newarray .int, 2) := by decide +kernel
theorem kr_2_init_27 : decode md_2_init.2.1 27 = .ok (.putfield 22, 3) := by decide +kernel
def kb_2_init_30 : List zI := [(.aload_n 0, 1, 0, 0), (.bipush 20, 2, 0, 0)]
theorem kd_2_init_30 : zdec md_2_init 30 kb_2_init_30 = true := by decide +kernel
theorem kr_2_init_33 : decode md_2_init.2.1 33 = .ok (.newarray .int, 2) := by decide +kernel
theorem kr_2_init_35 : decode md_2_init.2.1 35 = .ok (.putfield 25, 3) := by decide +kernel
def kb_2_init_38 : List zI := [(.aload_n 0, 1, 0, 0), (.bipush 60, 2, 0, 0)]
theorem kd_2_init_38 : zdec md_2_init 38 kb_2_init_38 = true := by decide +kernel
theorem kr_2_init_41 : decode md_2_init.2.1 41 = .ok (.newarray .int, 2) := by decide +kernel
theorem kr_2_init_43 : decode md_2_init.2.1 43 = .ok (.putfield 28, 3) := by decide +kernel
def kb_2_init_46 : List zI := [(.aload_n 0, 1, 0, 0), (.bipush 20, 2, 0, 0)]
theorem kd_2_init_46 : zdec md_2_init 46 kb_2_init_46 = true := by decide +kernel
theorem kr_2_init_49 : decode md_2_init.2.1 49 = .ok (.newarray .int, 2) := by decide +kernel
theorem kr_2_init_51 : decode md_2_init.2.1 51 = .ok (.putfield 31, 3) := by decide +kernel
def kb_2_init_54 : List zI := [(.aload_n 0, 1, 0, 0), (.bipush 20, 2, 0, 0)]
theorem kd_2_init_54 : zdec md_2_init 54 kb_2_init_54 = true := by decide +kernel
theorem kr_2_init_57 : decode md_2_init.2.1 57 = .ok (.newarray .int, 2) := by decide +kernel
theorem kr_2_init_59 : decode md_2_init.2.1 59 = .ok (.putfield 34, 3) := by decide +kernel
def kb_2_init_62 : List zI := [(.aload_n 0, 1, 0, 0), (.bipush 20, 2, 0, 0)]
theorem kd_2_init_62 : zdec md_2_init 62 kb_2_init_62 = true := by decide +kernel
theorem kr_2_init_65 : decode md_2_init.2.1 65 = .ok (.newarray .int, 2) := by decide +kernel
theorem kr_2_init_67 : decode md_2_init.2.1 67 = .ok (.putfield 37, 3) := by decide +kernel
def kb_2_init_70 : List zI := [(.aload_n 0, 1, 0, 0), (.bipush 20, 2, 0, 0)]
theorem kd_2_init_70 : zdec md_2_init 70 kb_2_init_70 = true := by decide +kernel
theorem kr_2_init_73 : decode md_2_init.2.1 73 = .ok (.newarray .int, 2) := by decide +kernel
theorem kr_2_init_75 : decode md_2_init.2.1 75 = .ok (.putfield 40, 3) := by decide +kernel
theorem kr_2_init_78 : decode md_2_init.2.1 78 = .ok (.return_, 1) := by decide +kernel
def zc_Tale_1 (Sh : List zS) (k N : Nat) : List zS := zmk (Sh) k (.inr (0, 20)) 2 [none, none, some (some (N)), some none, some none, some none, some none, some none, some none, some none]
def zc_Tale_2 (Sh : List zS) (k N : Nat) : List zS := zmk (zc_Tale_1 Sh k N) k (.inr (0, 20)) 2 [none, none, some (some (N)), some (some (N + 1)), some none, some none, some none, some none, some none, some none]
def zc_Tale_3 (Sh : List zS) (k N : Nat) : List zS := zmk (zc_Tale_2 Sh k N) k (.inr (0, 20)) 2 [none, none, some (some (N)), some (some (N + 1)), some (some (N + 2)), some none, some none, some none, some none, some none]
def zc_Tale_4 (Sh : List zS) (k N : Nat) : List zS := zmk (zc_Tale_3 Sh k N) k (.inr (0, 60)) 2 [none, none, some (some (N)), some (some (N + 1)), some (some (N + 2)), some (some (N + 3)), some none, some none, some none, some none]
def zc_Tale_5 (Sh : List zS) (k N : Nat) : List zS := zmk (zc_Tale_4 Sh k N) k (.inr (0, 20)) 2 [none, none, some (some (N)), some (some (N + 1)), some (some (N + 2)), some (some (N + 3)), some (some (N + 4)), some none, some none, some none]
def zc_Tale_6 (Sh : List zS) (k N : Nat) : List zS := zmk (zc_Tale_5 Sh k N) k (.inr (0, 20)) 2 [none, none, some (some (N)), some (some (N + 1)), some (some (N + 2)), some (some (N + 3)), some (some (N + 4)), some (some (N + 5)), some none, some none]
def zc_Tale_7 (Sh : List zS) (k N : Nat) : List zS := zmk (zc_Tale_6 Sh k N) k (.inr (0, 20)) 2 [none, none, some (some (N)), some (some (N + 1)), some (some (N + 2)), some (some (N + 3)), some (some (N + 4)), some (some (N + 5)), some (some (N + 6)), some none]
def zc_Tale_8 (Sh : List zS) (k N : Nat) : List zS := zmk (zc_Tale_7 Sh k N) k (.inr (0, 20)) 2 [none, none, some (some (N)), some (some (N + 1)), some (some (N + 2)), some (some (N + 3)), some (some (N + 4)), some (some (N + 5)), some (some (N + 6)), some (some (N + 7))]
def zc_Tale (Sh : List zS) (k N : Nat) : List zS := zc_Tale_8 Sh k N
theorem zc_Tale_len {Sh : List zS} {k N : Nat} (hN : Sh.length = N) : (zc_Tale Sh k N).length = N + 8 := zmk_len (zmk_len (zmk_len (zmk_len (zmk_len (zmk_len (zmk_len (zmk_len (hN))))))))
theorem zc_Tale_get {Sh : List zS} {k N : Nat} {a : zS} (hk : Sh[k]? = some a) : (zc_Tale Sh k N)[k]? = some (Sum.inl (2, [none, none, some (some (N)), some (some (N + 1)), some (some (N + 2)), some (some (N + 3)), some (some (N + 4)), some (some (N + 5)), some (some (N + 6)), some (some (N + 7))])) := zmk_get (zmk_get (zmk_get (zmk_get (zmk_get (zmk_get (zmk_get (zmk_get (hk))))))))
theorem zc_Tale_ne {Sh : List zS} {k N j : Nat} {a : zS} (hj : j ≠ k) (h : Sh[j]? = some a) : (zc_Tale Sh k N)[j]? = some a := zmk_ne hj (zmk_ne hj (zmk_ne hj (zmk_ne hj (zmk_ne hj (zmk_ne hj (zmk_ne hj (zmk_ne hj (h))))))))
theorem zc_Tale_ok {Sh : List zS} {k N : Nat} (hk : Sh[k]? = some (Sum.inl (2, [none, none, some none, some none, some none, some none, some none, some none, some none, some none]))) (hN : Sh.length = N) {μ : zM} (hz : ∀ j, N ≤ j → ∀ z, μ j z = 0) (h0 : ∀ z, μ k z = 0) : Dz md_2_init [zr k] Sh μ none (zc_Tale Sh k N) μ := by
  refine Dz.of (by decide) rfl rfl (show Ez md_2_init 0 0 0 [(0, zr k)] [] Sh μ none (zc_Tale Sh k N) μ from ?_)
  refine Az.blk kd_2_init_0 (show Ez md_2_init 0 0 1 [(0, zr k)] [zr k] Sh μ _ _ _ from ?_)
  refine Az.objInit kr_2_init_1 zw_73 rfl rfl ?_
  refine Az.blk kd_2_init_4 (show Ez md_2_init 0 0 6 [(0, zr k)] [zi 0, zr k] (Sh) μ _ _ _ from ?_)
  refine Az.puti (b := 0) kr_2_init_6 rfl rfl rfl (hk) rfl ?_
  rw [zup_same (h0 _)]
  refine Az.blk kd_2_init_9 (show Ez md_2_init 0 0 11 [(0, zr k)] [zi 0, zr k] (Sh) μ _ _ _ from ?_)
  refine Az.puti (b := 1) kr_2_init_11 rfl rfl rfl (hk) rfl ?_
  rw [zup_same (h0 _)]
  refine Az.blk kd_2_init_14 (show Ez md_2_init 0 0 17 [(0, zr k)] [zi 20, zr k] (Sh) μ _ _ _ from ?_)
  refine Az.newiPut (n := 20) (N := N) kr_2_init_17 kr_2_init_19 rfl rfl (hN) (hz _ (by omega)) rfl rfl rfl rfl (hk) rfl rfl ?_
  refine Az.blk kd_2_init_22 (show Ez md_2_init 1 20 25 [(0, zr k)] [zi 20, zr k] (zc_Tale_1 Sh k N) μ _ _ _ from ?_)
  refine Az.newiPut (n := 20) (N := N + 1) kr_2_init_25 kr_2_init_27 rfl rfl (zmk_len (hN)) (hz _ (by omega)) rfl rfl rfl rfl (zmk_get (hk)) rfl rfl ?_
  refine Az.blk kd_2_init_30 (show Ez md_2_init 2 40 33 [(0, zr k)] [zi 20, zr k] (zc_Tale_2 Sh k N) μ _ _ _ from ?_)
  refine Az.newiPut (n := 20) (N := N + 2) kr_2_init_33 kr_2_init_35 rfl rfl (zmk_len (zmk_len (hN))) (hz _ (by omega)) rfl rfl rfl rfl (zmk_get (zmk_get (hk))) rfl rfl ?_
  refine Az.blk kd_2_init_38 (show Ez md_2_init 3 60 41 [(0, zr k)] [zi 60, zr k] (zc_Tale_3 Sh k N) μ _ _ _ from ?_)
  refine Az.newiPut (n := 60) (N := N + 3) kr_2_init_41 kr_2_init_43 rfl rfl (zmk_len (zmk_len (zmk_len (hN)))) (hz _ (by omega)) rfl rfl rfl rfl (zmk_get (zmk_get (zmk_get (hk)))) rfl rfl ?_
  refine Az.blk kd_2_init_46 (show Ez md_2_init 4 120 49 [(0, zr k)] [zi 20, zr k] (zc_Tale_4 Sh k N) μ _ _ _ from ?_)
  refine Az.newiPut (n := 20) (N := N + 4) kr_2_init_49 kr_2_init_51 rfl rfl (zmk_len (zmk_len (zmk_len (zmk_len (hN))))) (hz _ (by omega)) rfl rfl rfl rfl (zmk_get (zmk_get (zmk_get (zmk_get (hk))))) rfl rfl ?_
  refine Az.blk kd_2_init_54 (show Ez md_2_init 5 140 57 [(0, zr k)] [zi 20, zr k] (zc_Tale_5 Sh k N) μ _ _ _ from ?_)
  refine Az.newiPut (n := 20) (N := N + 5) kr_2_init_57 kr_2_init_59 rfl rfl (zmk_len (zmk_len (zmk_len (zmk_len (zmk_len (hN)))))) (hz _ (by omega)) rfl rfl rfl rfl (zmk_get (zmk_get (zmk_get (zmk_get (zmk_get (hk)))))) rfl rfl ?_
  refine Az.blk kd_2_init_62 (show Ez md_2_init 6 160 65 [(0, zr k)] [zi 20, zr k] (zc_Tale_6 Sh k N) μ _ _ _ from ?_)
  refine Az.newiPut (n := 20) (N := N + 6) kr_2_init_65 kr_2_init_67 rfl rfl (zmk_len (zmk_len (zmk_len (zmk_len (zmk_len (zmk_len (hN))))))) (hz _ (by omega)) rfl rfl rfl rfl (zmk_get (zmk_get (zmk_get (zmk_get (zmk_get (zmk_get (hk))))))) rfl rfl ?_
  refine Az.blk kd_2_init_70 (show Ez md_2_init 7 180 73 [(0, zr k)] [zi 20, zr k] (zc_Tale_7 Sh k N) μ _ _ _ from ?_)
  refine Az.newiPut (n := 20) (N := N + 7) kr_2_init_73 kr_2_init_75 rfl rfl (zmk_len (zmk_len (zmk_len (zmk_len (zmk_len (zmk_len (zmk_len (hN)))))))) (hz _ (by omega)) rfl rfl rfl rfl (zmk_get (zmk_get (zmk_get (zmk_get (zmk_get (zmk_get (zmk_get (hk)))))))) rfl rfl ?_
  exact Ez.vret kr_2_init_78 rfl (Nat.le_refl _) (Nat.le_refl _) rfl rfl
