/-! constructors: what they make -/
theorem zgs {Sh : List zS} {k : Nat} {a b : zS} (h : Sh[k]? = some a) : (Sh.set k b)[k]? = some b := by
  obtain ⟨hl, -⟩ := List.getElem?_eq_some_iff.mp h
  rw [List.getElem?_set_self hl]
theorem zga {Sh L : List zS} {k : Nat} {a : zS} (h : Sh[k]? = some a) : (Sh ++ L)[k]? = some a := by
  obtain ⟨hl, -⟩ := List.getElem?_eq_some_iff.mp h
  rw [List.getElem?_append_left hl]; exact h
theorem zup_same {μ : zM} {k : Nat} {z v : Int} (h : μ k z = v) : zup μ k z v = μ := by
  funext k' z'
  rw [zup_ap]
  split
  · next e => obtain ⟨rfl, rfl⟩ := e; exact h.symm
  · rfl
def zc_Text (Sh : List zS) (k : Nat) : List zS := (Sh ++ [(Sum.inr (1, 60) : zS)]).set k (Sum.inl (3, [some (some Sh.length), none]))
theorem kr_3_init_1 : decode md_3_init.2.1 1 = .ok (.invokespecial 3, 3) := by decide +kernel
def kb_3_init_0 : List zI := [(.aload_n 0, 1, 0, 0)]
theorem kd_3_init_0 : zdec md_3_init 0 kb_3_init_0 = true := by decide +kernel
section ZN
variable {md : zD} {C : zG → Array Value → State → Prop} {F : zG → List Frame → Array Value → State → State → Prop} {cn sn pc : Nat} {lv : zL} {st rest : List zV} {Sh : List zS} {μ : zM} {idx k : Nat}
theorem Az.puti {ci b : Nat} {v : Int} {fs : List (Option (Option Nat))} (hd : decode md.2.1 pc = .ok (.putfield idx, 3)) (hl : zfl md.2.2.2.2.2 idx = some (ci, b, false)) (hp : zput ci b = true) (hst : st = zi v :: zr k :: rest) (hk : Sh[k]? = some (.inl (ci, fs))) (hb : fs[b]? = some none)
    (kk : Az md C F cn sn (pc + 3) lv rest Sh (zup μ k (b : Int) v)) : Az md C F cn sn pc lv st Sh μ := by
  subst hst
  intro G p l e s m args below meth c hX hC H locs ls hw hS hls
  have hX' := hX
  obtain ⟨hx, hcd, hml, hown, hts, hret, hlk, hKK, hname⟩ := hX'
  obtain ⟨q, hc, hbn, hlf, -⟩ := zfl_ok hl
  dsimp only at hc hbn hlf
  unfold zput at hp
  rw [hc] at hp
  dsimp only at hp
  rw [Bool.and_eq_true, Bool.not_eq_true', decide_eq_true_eq] at hp
  obtain ⟨hfin, hdesc⟩ := hp
  have hP := hw.one hk
  have hK := hKK.1
  have hin := zlays hc
  obtain ⟨⟨ty0, hty⟩, hnm⟩ := ztys hc
  have hap := va_apart (own := zcn md.2.2.2.2.2) hts hin ty0 hty hnm hK hc
  obtain ⟨q', h1, cell, q1, q2, q3, q4⟩ := hP 0 _ rfl
  have hrr : q' = q := Option.some.inj (h1.symm.trans hc)
  subst hrr
  obtain ⟨hSl, hfc, kC, hkC, hkind⟩ := hK.1 ci _ hc
  obtain ⟨cf, kf, fi, f, hi2, hsl⟩ := hSl b hbn
  have hlay := hts _ (hin _ (u_in_lay hbn))
  unfold u_lay at hlay
  rw [if_neg (by rw [hfin]; decide)] at hlay
  have hst := (u_facts hfc hkC (u_lays hts hin hbn) hi2).1
  have h6 : k2_Sd s f (G.2.1.1 ci) (.int (Int32.ofInt v)) := u_store hfc hkC hkind hlay hi2 hdesc rfl rfl
  refine W.putK hx hcd (f := f) ⟨hown, hts _ (hlf rfl), ⟨_, _, _, hi2⟩, hst⟩ (by rw [q2]; exact h6) q1 q3 (by rw [hsl]; exact k2_hasslot (q4 b hbn)) rfl rfl hd fun H' e1 e2 e3 => ?_
  refine kk G p l e s m args below meth c hX hC H' _ ls (hw.upd hk e2 e3 (fun k' h => zup_ne h) ?_) (hS.put e2 e3 (Nat.le_add_right _ _)) hls
  rw [hsl] at e1
  refine ⟨q', hc, ?_⟩
  have hob : t_OB (G.1 + k) (G.2.1.1 ci) q'.2.2 (G.2.1.2 ci) H' (updV (vp_V (zfs G.1 (μ k) 0 fs)) b (.int (Int32.ofInt v))) := ⟨_, e1, q2, q3, t_set q4 hap hbn _⟩
  refine hob.to (fun j _ => ?_)
  rw [zup_eq]
  exact zfs_set G.1 (μ k) fs v hb j
end ZN
def kb_3_init_4 : List zI := [(.aload_n 0, 1, 0, 0), (.bipush 60, 2, 0, 0)]
theorem kd_3_init_4 : zdec md_3_init 4 kb_3_init_4 = true := by decide +kernel
theorem kr_3_init_7 : decode md_3_init.2.1 7 = .ok (.newarray .char, 2) := by decide +kernel
theorem kr_3_init_9 : decode md_3_init.2.1 9 = .ok (.putfield 9, 3) := by decide +kernel
def kb_3_init_12 : List zI := [(.aload_n 0, 1, 0, 0), (.iconst 0, 1, 0, 0)]
theorem kd_3_init_12 : zdec md_3_init 12 kb_3_init_12 = true := by decide +kernel
theorem kr_3_init_14 : decode md_3_init.2.1 14 = .ok (.putfield 15, 3) := by decide +kernel
theorem kr_3_init_17 : decode md_3_init.2.1 17 = .ok (.return_, 1) := by decide +kernel
theorem zc_Text_ok {Sh : List zS} {μ : zM} {k : Nat} (hk : Sh[k]? = some (Sum.inl (3, [some none, none]))) (hz : ∀ j, Sh.length ≤ j → ∀ z, μ j z = 0) (h0 : ∀ z, μ k z = 0) : Dz md_3_init [zr k] Sh μ none (zc_Text Sh k) μ := by
  refine Dz.of (by decide) rfl rfl (show Ez md_3_init 0 0 0 [(0, zr k)] [] Sh μ none (zc_Text Sh k) μ from ?_)
  refine Az.blk kd_3_init_0 (show Ez md_3_init 0 0 1 [(0, zr k)] [zr k] Sh μ _ _ _ from ?_)
  refine Az.objInit kr_3_init_1 zw_23 rfl rfl ?_
  refine Az.blk kd_3_init_4 (show Ez md_3_init 0 0 7 [(0, zr k)] [zi 60, zr k] Sh μ _ _ _ from ?_)
  refine Az.newc (n := 60) kr_3_init_7 rfl rfl (hz _ (Nat.le_refl _)) rfl ?_
  refine Az.putr kr_3_init_9 rfl rfl rfl rfl (zga hk) rfl ?_
  refine Az.blk kd_3_init_12 (show Ez md_3_init 1 60 14 [(0, zr k)] [zi 0, zr k] (zc_Text Sh k) μ _ _ _ from ?_)
  refine Az.puti (b := 1) kr_3_init_14 rfl rfl rfl (zgs (zga hk)) rfl ?_
  rw [zup_same (h0 _)]
  exact Ez.vret kr_3_init_17 rfl (Nat.le_refl _) (Nat.le_refl _) rfl rfl
