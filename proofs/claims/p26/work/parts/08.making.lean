/-! rows for what makes cells: new, arrays, constructors' stores -/
theorem zWd.push {G : zG} {Sh : List zS} {μ : zM} {H H' : Heap} {sp : zS} (h : zWd G Sh μ H) (e0 : zE G = 0) (hz : H'.size = H.size + 1) (ho : ∀ q : Nat, q < H.size → H'[q]? = H[q]?) (ha : va_at G.2.1 vwCl (G.1 + Sh.length, zcell G μ Sh.length sp) H') : zWd G (Sh ++ [sp]) μ H' := by
  refine ⟨⟨by rw [hz, h.sz e0, List.length_append, List.length_singleton, e0]; omega, Or.inl e0⟩, fun k sp' hk => ?_⟩
  by_cases hl : k < Sh.length
  · rw [List.getElem?_append_left hl] at hk
    exact (h.2 k sp' hk).kept (ho _ (by rw [h.sz e0]; show G.1 + k < _; omega))
  · rw [List.getElem?_append_right (by omega)] at hk
    have hz : k - Sh.length < 1 := (List.getElem?_eq_some_iff.mp hk).1
    have hk0 : k = Sh.length := by omega
    subst hk0
    rw [Nat.sub_self] at hk
    cases hk
    exact ha
def zfd (ci : Nat) (fs : List (Option (Option Nat))) : Bool := match vwCl[ci]? with
  | some r => (List.range r.2.2).all fun j => match parseFieldDescriptor (r.2.1 j).2.2.1, fs[j]? with
    | some .int, some none => true
    | some .boolean, some none => true
    | some (.object _), some (some none) => true
    | some (.array _), some (some none) => true
    | _, _ => false
  | none => false
theorem zfd_ok {ci : Nat} {fs : List (Option (Option Nat))} {r : vw_C} (hc : vwCl[ci]? = some r) (h : zfd ci fs = true) {ty : Nat → FieldType} (hty : ∀ k, k < r.2.2 → parseFieldDescriptor (r.2.1 k).2.2.1 = some (ty k)) (b : Nat) {μ : Int → Int} (h0 : ∀ z, μ z = 0) : ∀ j, j < r.2.2 → defaultValue (ty j) = vp_V (zfs b μ 0 fs) j := by
  intro j hj
  unfold zfd at h
  rw [hc] at h
  have h1 := List.all_eq_true.mp h j (List.mem_range.mpr hj)
  rw [hty j hj] at h1
  unfold vp_V
  rw [List.getD_eq_getElem?_getD, zfs_get]
  cases hf : fs[j]? with
  | none => rw [hf] at h1; split at h1 <;> simp_all
  | some f =>
    rw [hf] at h1
    simp only [Option.map_some, Option.getD_some]
    rcases f with _ | _ | q
    · cases ht : ty j <;> rw [ht] at h1 <;> first | (simp only [Bool.false_eq_true] at h1; done) | (simp only [zfv, h0]; rfl)
    · cases ht : ty j <;> rw [ht] at h1 <;> first | (simp only [Bool.false_eq_true] at h1; done) | rfl
    · cases ht : ty j <;> rw [ht] at h1 <;> first | (simp only [Bool.false_eq_true] at h1; done) | rfl
def zputF (a b own : Nat) : Bool := match vwCl[a]? with
  | some r => (r.2.1 b).2.2.2 && decide ((r.2.1 b).1 = zcn own) && match parseFieldDescriptor (r.2.1 b).2.2.1 with
    | some (.object _) => true
    | some (.array _) => true
    | _ => false
  | none => false
def zputZ (a b : Nat) : Bool := match vwCl[a]? with
  | some r => !(r.2.1 b).2.2.2 && decide (parseFieldDescriptor (r.2.1 b).2.2.1 = some .boolean)
  | none => false
theorem zfs_setR (b0 : Nat) (μ : Int → Int) (fs : List (Option (Option Nat))) {b : Nat} (r : Nat) (hb : b < fs.length) (j : Nat) :
    updV (vp_V (zfs b0 μ 0 fs)) b (.ref (b0 + r)) j = vp_V (zfs b0 μ 0 (fs.set b (some (some r)))) j := by
  show (if j = b then _ else _) = _
  unfold vp_V
  rw [List.getD_eq_getElem?_getD, List.getD_eq_getElem?_getD, zfs_get, zfs_get]
  by_cases h : j = b
  · subst h
    rw [if_pos rfl, List.getElem?_set_self hb]
    rfl
  · rw [if_neg h, List.getElem?_set_ne (Ne.symm h)]
section ZN
variable {md : zD} {C : zG → Array Value → State → Prop} {F : zG → List Frame → Array Value → State → State → Prop} {cn sn pc : Nat} {lv : zL} {st rest : List zV} {Sh : List zS} {μ : zM} {idx k : Nat}
theorem Az.objInit (hd : decode md.2.1 pc = .ok (.invokespecial idx, 3)) (hl : Cond.methodLink (zcn md.2.2.2.2.2) idx Lib.objectInit ∈ wz) (hst : st = zr k :: rest) (hR : (Nat.ble 1 md.2.2.2.2.1.frames && Nat.ble (2 * rest.length + 12) md.2.2.2.2.1.locals) = true) (kk : Az md C F cn sn (pc + 3) lv rest Sh μ) : Az md C F cn sn pc lv st Sh μ := by
  subst hst
  rw [Bool.and_eq_true] at hR
  intro G p l e s m args below meth c hX hC H locs ls hw hS hls
  have hX' := hX
  obtain ⟨hx, hcd, hml, hown, hts, hret, hlk, hKK, -⟩ := hX'
  exact W.objInit hx hcd hown (hts _ hl) (hts _ zy_objM) (hts _ zy_objC) rfl (by rw [hml]; exact hls.1) rfl hd (Nat.le_of_ble_eq_true hR.1) (by show 2 * 0 + _ + 12 ≤ _; have := zcatsum G rest; have := Nat.le_of_ble_eq_true hR.2; omega) (kk G p l e s m args below meth c hX hC H locs ls hw hS hls)
theorem Az.new {ci N : Nat} {fs : List (Option (Option Nat))} (hd : decode md.2.1 pc = .ok (.new idx, 3)) (hcl : Cond.classLink (zcn md.2.2.2.2.2) idx (zcn ci) ∈ wz) (hin : Cond.instantiable (zcn ci) N ∈ wz) (hini : Cond.initialized (zcn ci) ∈ wz) (hN : ((vwCl[ci]?).map fun r => r.2.2) = some N) (hfs : zfd ci fs = true) (h0 : ∀ z, μ Sh.length z = 0) (hR : (Nat.ble (cn + 1) md.2.2.2.2.1.cells && Nat.ble (sn + N) md.2.2.2.2.1.slots) = true)
    (kk : Az md C F (cn + 1) (sn + N) (pc + 3) lv (zr Sh.length :: st) (Sh ++ [.inl (ci, fs)]) μ) (hi : md.1.name = "<init>" := by rfl) : Az md C F cn sn pc lv st Sh μ := by
  rw [Bool.and_eq_true] at hR
  intro G p l e s m args below meth c hX hC H locs ls hw hS hls
  have hX' := hX
  obtain ⟨hx, hcd, hml, hown, hts, hret, hlk, hKK, -, hi0⟩ := hX'
  have e0 := hi0 hi
  have hsz := hw.sz e0
  obtain ⟨r, hr, hN⟩ := Option.map_eq_some_iff.mp hN
  subst hN
  have hcn : zcn ci = r.1 := by unfold zcn; rw [hr]
  have hKn := hKK.1.1 ci r hr
  refine W.newcK hx hcd hown (hts _ hcl) (hts _ hin) (hts _ hini) rfl hd (Nat.le_of_ble_eq_true hR.1) (Nat.le_of_ble_eq_true hR.2) (by rw [hcn]; exact hKn.2.1) rfl fun H1 kC hkC e1 z1 o1 => ?_
  obtain ⟨⟨ty, hty⟩, -⟩ := ztys hr
  have key : zWd G (Sh ++ [.inl (ci, fs)]) μ H1 := by
    refine hw.push e0 z1 o1 ⟨r, hr, ?_⟩
    show t_OB (G.1 + Sh.length) _ _ _ H1 (vp_V (zfs G.1 (μ Sh.length) 0 fs))
    have h1 := u_born (o := H.size) ty hts (zlays hr) hKn hkC e1 hty
    rw [hsz] at h1
    exact h1.to (zfd_ok hr hfs hty G.1 h0)
  rw [hsz]
  exact kk G p l e s m args below meth c hX hC H1 locs ls key ⟨Nat.le_trans hS.1 (by omega), fun q h1 h2 => (o1 q (Nat.lt_of_lt_of_le h1 hS.1)).trans (hS.2.1 q h1 h2), hS.2.2⟩ hls
theorem zi32 {n : Nat} (hn : n ≤ 100000) : ¬ Int32.ofInt (n : Int) < 0 ∧ (Int32.ofInt (n : Int)).toNatClampNeg = n := by
  have e : (Int32.ofInt (n : Int)).toInt = n := Int32.toInt_ofInt_of_le (by omega) (by omega)
  refine ⟨fun h => ?_, ?_⟩
  · rw [Int32.lt_iff_toInt_lt, e, Int32.toInt_zero] at h
    omega
  · show ((Int32.ofInt (n : Int)).toInt).toNat = n
    rw [e]; rfl
theorem Az.newi {n : Nat} (hd : decode md.2.1 pc = .ok (.newarray .int, 2)) (hst : st = zi (n : Int) :: rest) (hn : Nat.ble n 100000 = true) (h0 : ∀ z, μ Sh.length z = 0) (hR : (Nat.ble (cn + 1) md.2.2.2.2.1.cells && Nat.ble (sn + n) md.2.2.2.2.1.slots) = true)
    (kk : Az md C F (cn + 1) (sn + n) (pc + 2) lv (zr Sh.length :: rest) (Sh ++ [.inr (0, n)]) μ) (hi : md.1.name = "<init>" := by rfl) : Az md C F cn sn pc lv st Sh μ := by
  subst hst
  rw [Bool.and_eq_true] at hR
  have hn := Nat.le_of_ble_eq_true hn
  intro G p l e s m args below meth c hX hC H locs ls hw hS hls
  have hX' := hX
  obtain ⟨hx, hcd, hml, hown, hts, hret, hlk, hKK, -, hi0⟩ := hX'
  have e0 := hi0 hi
  have hsz := hw.sz e0
  refine va_newaK (atype := .int) hx hcd (hts _ zy_aI) rfl hd rfl (zi32 hn).1 (zi32 hn).2 (by show n * 4 ≤ _; omega) (Nat.le_of_ble_eq_true hR.1) (Nat.le_of_ble_eq_true hR.2) hsz fun H1 cA e1 z1 o1 hAr hNm => ?_
  have hcA : cA = G.2.2 0 := Option.some.inj (hNm.symm.trans (hKK.1.2 0 _ rfl).2)
  subst hcA
  have key : zWd G (Sh ++ [.inr (0, n)]) μ H1 := by
    refine hw.push e0 (by rw [z1, hsz]) (fun q hq => o1 q (by rw [← hsz]; exact hq)) ?_
    refine e1.trans (congrArg some ?_)
    show _ = vp_cell _ (n, .inl fun j => Int32.ofInt (μ Sh.length j))
    rw [vp_cell_i]
    congr 1
    funext j
    rw [h0]
    rfl
  exact kk G p l e s m args below meth c hX hC H1 locs ls key ⟨Nat.le_trans hS.1 (by rw [z1, hsz]; omega), fun q h1 h2 => (o1 q (by rw [← hsz]; exact Nat.lt_of_lt_of_le h1 hS.1)).trans (hS.2.1 q h1 h2), hS.2.2⟩ hls
theorem Az.newc {n : Nat} (hd : decode md.2.1 pc = .ok (.newarray .char, 2)) (hst : st = zi (n : Int) :: rest) (hn : Nat.ble n 100000 = true) (h0 : ∀ z, μ Sh.length z = 0) (hR : (Nat.ble (cn + 1) md.2.2.2.2.1.cells && Nat.ble (sn + n) md.2.2.2.2.1.slots) = true)
    (kk : Az md C F (cn + 1) (sn + n) (pc + 2) lv (zr Sh.length :: rest) (Sh ++ [.inr (1, n)]) μ) (hi : md.1.name = "<init>" := by rfl) : Az md C F cn sn pc lv st Sh μ := by
  subst hst
  rw [Bool.and_eq_true] at hR
  have hn := Nat.le_of_ble_eq_true hn
  intro G p l e s m args below meth c hX hC H locs ls hw hS hls
  have hX' := hX
  obtain ⟨hx, hcd, hml, hown, hts, hret, hlk, hKK, -, hi0⟩ := hX'
  have e0 := hi0 hi
  have hsz := hw.sz e0
  refine va_newaK (atype := .char) hx hcd (hts _ zy_aC) rfl hd rfl (zi32 hn).1 (zi32 hn).2 (by show n * 2 ≤ _; omega) (Nat.le_of_ble_eq_true hR.1) (Nat.le_of_ble_eq_true hR.2) hsz fun H1 cA e1 z1 o1 hAr hNm => ?_
  have hcA : cA = G.2.2 1 := Option.some.inj (hNm.symm.trans (hKK.1.2 1 _ rfl).2)
  subst hcA
  have key : zWd G (Sh ++ [.inr (1, n)]) μ H1 := by
    refine hw.push e0 (by rw [z1, hsz]) (fun q hq => o1 q (by rw [← hsz]; exact hq)) ?_
    refine e1.trans (congrArg some ?_)
    show _ = vp_cell _ (n, .inl fun j => Int32.ofInt (μ Sh.length j))
    rw [vp_cell_i]
    congr 1
    funext j
    rw [h0]
    rfl
  exact kk G p l e s m args below meth c hX hC H1 locs ls key ⟨Nat.le_trans hS.1 (by rw [z1, hsz]; omega), fun q h1 h2 => (o1 q (by rw [← hsz]; exact Nat.lt_of_lt_of_le h1 hS.1)).trans (hS.2.1 q h1 h2), hS.2.2⟩ hls
theorem Az.anew {n : Nat} (hd : decode md.2.1 pc = .ok (.anewarray idx, 3)) (hcl : Cond.classLink (zcn md.2.2.2.2.2) idx "TaleHoles$State" ∈ wz) (hst : st = zi (n : Int) :: rest) (hn : Nat.ble n 100000 = true) (h0 : ∀ z, μ Sh.length z = 0) (hR : (Nat.ble (cn + 1) md.2.2.2.2.1.cells && Nat.ble (sn + n) md.2.2.2.2.1.slots) = true)
    (kk : Az md C F (cn + 1) (sn + n) (pc + 3) lv (zr Sh.length :: rest) (Sh ++ [.inr (2, n)]) μ) (hi : md.1.name = "<init>" := by rfl) : Az md C F cn sn pc lv st Sh μ := by
  subst hst
  rw [Bool.and_eq_true] at hR
  have hn := Nat.le_of_ble_eq_true hn
  intro G p l e s m args below meth c hX hC H locs ls hw hS hls
  have hX' := hX
  obtain ⟨hx, hcd, hml, hown, hts, hret, hlk, hKK, -, hi0⟩ := hX'
  have e0 := hi0 hi
  have hsz := hw.sz e0
  refine W.anew hx hcd hown (hts _ hcl) (va_AO.use hKK.2.2) rfl hd rfl (zi32 hn).1 (by rw [(zi32 hn).2]; omega) (Nat.le_of_ble_eq_true hR.1) (by rw [(zi32 hn).2]; exact Nat.le_of_ble_eq_true hR.2) fun cA kA comp f1 f2 f3 f4 => ?_
  rw [(zi32 hn).2]
  have hcA : cA = G.2.2 2 := by
    obtain ⟨kA', comp', -, -, -, k4⟩ := (hKK.1.2 2 _ rfl).2
    exact Option.some.inj (f1.symm.trans k4)
  subst hcA
  generalize hH1 : H.push ({ cls := G.2.2 2, slots := Array.replicate n .null, vm := .none } : Cell) = H1
  have z1 : H1.size = H.size + 1 := by rw [← hH1, Array.size_push]
  have e1 : H1[H.size]? = some (arrV (G.2.2 2) n (fun _ => .null)) := by rw [← hH1, Array.getElem?_push_size, ← arrV_new]
  have o1 : ∀ q : Nat, q < H.size → H1[q]? = H[q]? := fun q hq => by rw [← hH1, Array.getElem?_push, if_neg (Nat.ne_of_lt hq)]
  have key : zWd G (Sh ++ [.inr (2, n)]) μ H1 := by
    refine hw.push e0 z1 o1 ?_
    rw [← hsz]
    refine e1.trans (congrArg some ?_)
    show _ = vp_cell _ (n, .inr (.inr (.inr (.inr fun j : Nat => if μ Sh.length j = 0 then none else some (G.1 + (μ Sh.length j).toNat)))))
    rw [vp_cell_q]
    congr 1
    funext j
    rw [h0, if_pos rfl]
    rfl
  rw [hsz]
  exact kk G p l e s m args below meth c hX hC H1 locs ls key ⟨Nat.le_trans hS.1 (by rw [z1]; omega), fun q h1 h2 => (o1 q (Nat.lt_of_lt_of_le h1 hS.1)).trans (hS.2.1 q h1 h2), hS.2.2⟩ hls
/-- a constructor puts a reference into a final field -/
theorem Az.putr {ci b r : Nat} {fs : List (Option (Option Nat))} (hd : decode md.2.1 pc = .ok (.putfield idx, 3)) (hl : zfl md.2.2.2.2.2 idx = some (ci, b, false)) (hp : zputF ci b md.2.2.2.2.2 = true) (hi : md.1.name = "<init>") (hst : st = zr r :: zr k :: rest) (hk : Sh[k]? = some (.inl (ci, fs))) (hb : Nat.blt b fs.length = true)
    (kk : Az md C F cn sn (pc + 3) lv rest (Sh.set k (.inl (ci, fs.set b (some (some r))))) μ) : Az md C F cn sn pc lv st Sh μ := by
  subst hst
  have hb : b < fs.length := Nat.le_of_ble_eq_true hb
  intro G p l e s m args below meth c hX hC H locs ls hw hS hls
  have hX' := hX
  obtain ⟨hx, hcd, hml, hown, hts, hret, hlk, hKK, hname⟩ := hX'
  obtain ⟨q, hc, hbn, hlf, -⟩ := zfl_ok hl
  dsimp only at hc hbn hlf
  unfold zputF at hp
  rw [hc] at hp
  dsimp only at hp
  rw [Bool.and_eq_true, Bool.and_eq_true, decide_eq_true_eq] at hp
  obtain ⟨⟨hfin, hdecl⟩, htyp⟩ := hp
  have hP := hw.one hk
  have hK := hKK.1
  have hin := zlays hc
  obtain ⟨⟨ty0, hty⟩, hnm⟩ := ztys hc
  have hap := va_apart (own := zcn md.2.2.2.2.2) hts hin ty0 hty hnm hK hc
  obtain ⟨q', h1, cell, q1, q2, q3, q4⟩ := hP 0 _ rfl
  have hrr : q' = q := Option.some.inj (h1.symm.trans hc)
  subst hrr
  obtain ⟨hSl, hfc, kC, hkC, hkind⟩ := hK.1 ci _ hc
  obtain ⟨cf, kf, fi, f, hi2, hsl⟩ := hSl b hbn
  have hlay := hts _ (hin _ (u_in_lay hbn))
  unfold u_lay at hlay
  rw [if_pos hfin] at hlay
  have hst := (u_facts hfc hkC (u_lays hts hin hbn) hi2).1
  have hcf : m.cls = cf := by
    obtain ⟨_, _, c', _, _, _, -, -, hf', -, -, -, hown2, -⟩ := Cond.laysFinal_spec hlay
    have e1 : c' = cf := by have := hi2.symm.trans hf'; simp at this; exact this.1.symm
    rw [hdecl] at hown2
    rw [← e1]; exact Option.some.inj (hown.symm.trans hown2)
  have h6 : narrow f.type (.ref (G.1 + r)) = .ref (G.1 + r) ∧ s.fitsSlot (G.2.1.1 ci) .none f.slot (.ref (G.1 + r)) = true := by
    cases hpd : parseFieldDescriptor (q'.2.1 b).2.2.1 with
    | none => rw [hpd] at htyp; cases htyp
    | some ty =>
      rw [hpd] at htyp
      cases ty with
      | object n => exact u_fits hfc hkC hkind (Or.inr hlay) hi2 hpd rfl rfl
      | array t => exact u_fits hfc hkC hkind (Or.inr hlay) hi2 hpd rfl rfl
      | _ => cases htyp
  refine W.putFinK hx hcd hown (hts _ (hlf rfl)) hi2 hst hcf (hname.1 hi) (by rw [q2]; exact h6) q1 q3 (by rw [hsl]; exact k2_hasslot (q4 b hbn)) rfl rfl hd fun H' e1 e2 e3 => ?_
  refine kk G p l e s m args below meth c hX hC H' _ ls ⟨⟨by rw [e2, hw.1.1, List.length_set], by rw [List.length_set]; exact hw.1.2⟩, fun k' sp' hk' => ?_⟩ (hS.put e2 e3 (hw.fr hk)) hls
  by_cases hkk : k' = k
  · subst hkk
    rw [List.getElem?_set_self (List.getElem?_eq_some_iff.mp hk).1] at hk'
    cases hk'
    rw [hsl] at e1
    have hob : t_OB (G.1 + k') (G.2.1.1 ci) q'.2.2 (G.2.1.2 ci) H' (updV (vp_V (zfs G.1 (μ k') 0 fs)) b (.ref (G.1 + r))) := ⟨_, e1, q2, q3, t_set q4 hap hbn _⟩
    exact ⟨q', hc, hob.to fun j _ => zfs_setR G.1 (μ k') fs r hb j⟩
  · rw [List.getElem?_set_ne (Ne.symm hkk)] at hk'
    exact (hw.2 k' sp' hk').kept (e3 _ (by show G.1 + k' ≠ G.1 + k; omega))
/-- a truth value into a field -/
theorem Az.putz {ci b : Nat} {v : Int} {fs : List (Option (Option Nat))} (hd : decode md.2.1 pc = .ok (.putfield idx, 3)) (hl : zfl md.2.2.2.2.2 idx = some (ci, b, false)) (hp : zputZ ci b = true) (hst : st = zi v :: zr k :: rest) (hv : v = 0 ∨ v = 1) (hk : Sh[k]? = some (.inl (ci, fs))) (hb : fs[b]? = some none)
    (kk : Az md C F cn sn (pc + 3) lv rest Sh (zup μ k (b : Int) v)) : Az md C F cn sn pc lv st Sh μ := by
  subst hst
  intro G p l e s m args below meth c hX hC H locs ls hw hS hls
  have hX' := hX
  obtain ⟨hx, hcd, hml, hown, hts, hret, hlk, hKK, hname⟩ := hX'
  obtain ⟨q, hc, hbn, hlf, -⟩ := zfl_ok hl
  dsimp only at hc hbn hlf
  unfold zputZ at hp
  rw [hc] at hp
  dsimp only at hp
  rw [Bool.and_eq_true, Bool.not_eq_true', decide_eq_true_eq] at hp
  obtain ⟨hfin, hdesc⟩ := hp
  have hP := hw.one hk
  have hK := hKK.1
  have hin := zlays hc
  obtain ⟨⟨ty0, hty⟩, hnm⟩ := ztys hc
  have hap := va_apart (own := zcn md.2.2.2.2.2) hts hin ty0 hty hnm hK hc
  obtain ⟨q', h1, cell, q1, q2, q3, q4⟩ := hP 0 _ rfl
  have hrr : q' = q := Option.some.inj (h1.symm.trans hc)
  subst hrr
  obtain ⟨hSl, hfc, kC, hkC, hkind⟩ := hK.1 ci _ hc
  obtain ⟨cf, kf, fi, f, hi2, hsl⟩ := hSl b hbn
  have hlay := hts _ (hin _ (u_in_lay hbn))
  unfold u_lay at hlay
  rw [if_neg (by rw [hfin]; decide)] at hlay
  have hst := (u_facts hfc hkC (u_lays hts hin hbn) hi2).1
  have h6 : k2_Sd s f (G.2.1.1 ci) (.int (Int32.ofInt v)) := u_store hfc hkC hkind hlay hi2 hdesc (by rcases hv with rfl | rfl <;> rfl) (by rcases hv with rfl | rfl <;> rfl)
  refine W.putK hx hcd (f := f) ⟨hown, hts _ (hlf rfl), ⟨_, _, _, hi2⟩, hst⟩ (by rw [q2]; exact h6) q1 q3 (by rw [hsl]; exact k2_hasslot (q4 b hbn)) rfl rfl hd fun H' e1 e2 e3 => ?_
  refine kk G p l e s m args below meth c hX hC H' _ ls (hw.upd hk e2 e3 (fun k' h => zup_ne h) ?_) (hS.put e2 e3 (hw.fr hk)) hls
  rw [hsl] at e1
  refine ⟨q', hc, ?_⟩
  have hob : t_OB (G.1 + k) (G.2.1.1 ci) q'.2.2 (G.2.1.2 ci) H' (updV (vp_V (zfs G.1 (μ k) 0 fs)) b (.int (Int32.ofInt v))) := ⟨_, e1, q2, q3, t_set q4 hap hbn _⟩
  refine hob.to (fun j _ => ?_)
  rw [zup_eq]
  exact zfs_set G.1 (μ k) fs v hb j
end ZN
