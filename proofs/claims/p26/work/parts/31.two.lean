/-! two objects side by side -/
def zsh (d : Nat) : zS → zS
  | .inl q => .inl (q.1, q.2.map fun f => f.map fun g => g.map fun r => d + r)
  | .inr q => .inr q
def zSp : List zS := zSh ++ zSh.map (zsh 113)
theorem zSh_len : zSh.length = 113 := by decide +kernel
theorem zSp_len : zSp.length = 226 := by decide +kernel
def cmb (μ ν : zM) : zM := fun k => match Nat.blt k 113 with
  | true => μ k
  | false => match Nat.beq k 153 with
    | true => fun j => if ν 40 j = 0 then 0 else ((ν 40 j).toNat : Int) + 113
    | false => ν (k - 113)
theorem cmb_lo {μ ν : zM} {k : Nat} (h : k < 113) : cmb μ ν k = μ k := by
  have e : Nat.blt k 113 = true := Nat.ble_eq_true_of_le h
  unfold cmb
  rw [e]
theorem blt_f {k : Nat} (h : ¬ k < 113) : Nat.blt k 113 = false := by
  cases hb : Nat.blt k 113 with
  | false => rfl
  | true => exact absurd (Nat.le_of_ble_eq_true hb) h
theorem cmb_hi {μ ν : zM} {k : Nat} (h : k ≠ 40) : cmb μ ν (113 + k) = ν k := by
  have e2 : Nat.beq (113 + k) 153 = false := by
    cases hb : Nat.beq (113 + k) 153 with
    | false => rfl
    | true => exact absurd (Nat.eq_of_beq_eq_true hb) (by omega)
  unfold cmb
  rw [blt_f (by omega)]
  dsimp only
  rw [e2]
  dsimp only
  rw [Nat.add_sub_cancel_left]
theorem cmb_40 {μ ν : zM} : cmb μ ν (113 + 40) = fun j => if ν 40 j = 0 then 0 else ((ν 40 j).toNat : Int) + 113 := by
  unfold cmb
  rw [blt_f (by omega)]
def zGo (G : zG) : zG := (G.1, G.2.1, fun t => match t with | 3 => 113 | t => G.2.2 t)
def zGp (G : zG) : zG := (G.1 + 113, G.2.1, G.2.2)
def zk3 : zS → Bool
  | .inl _ => true
  | .inr q => Nat.blt q.1 3
def zk2 : zS → Bool
  | .inl _ => true
  | .inr q => !Nat.beq q.1 2
theorem zSh_k3 {k : Nat} {sp : zS} (h : zSh[k]? = some sp) : zk3 sp = true := by
  have h1 : zSh.all zk3 = true := by decide +kernel
  exact List.all_eq_true.mp h1 sp (List.mem_of_getElem? h)
theorem zSh_k2 {k : Nat} {sp : zS} (h : zSh[k]? = some sp) (hk : k ≠ 40) : zk2 sp = true := by
  have h1 : ((List.range 113).all fun k => Nat.beq k 40 || match zSh[k]? with | some sp => zk2 sp | none => true) = true := by decide +kernel
  have hl : k < 113 := by have := (List.getElem?_eq_some_iff.mp h).1; rw [zSh_len] at this; exact this
  have h2 := List.all_eq_true.mp h1 k (List.mem_range.mpr hl)
  rw [h] at h2
  rw [Bool.or_eq_true] at h2
  rcases h2 with h2 | h2
  · exact absurd (Nat.eq_of_beq_eq_true h2) hk
  · exact h2
theorem zcell_o {G : zG} {μ : zM} {k : Nat} {sp : zS} (h : zk3 sp = true) : zcell (zGo G) μ k sp = zcell G μ k sp := by
  rcases sp with ⟨ci, fs⟩ | ⟨t, n⟩
  · rfl
  · match t, h with
    | 0, _ => rfl
    | 1, _ => rfl
    | 2, _ => rfl
    | t + 3, h => exact absurd (Nat.le_of_ble_eq_true h) (by omega)
theorem zfs_p (b : Nat) (μ : Int → Int) : ∀ (fs : List (Option (Option Nat))) (j : Nat), zfs (b + 113) μ j fs = zfs b μ j (fs.map fun f => f.map fun g => g.map fun r => 113 + r)
  | [], _ => rfl
  | f :: fs, j => by
    have ih := zfs_p b μ fs (j + 1)
    simp only [List.map_cons, zfs]
    rw [ih]
    congr 1
    rcases f with _ | _ | r
    · rfl
    · rfl
    · show Value.ref (b + 113 + r) = Value.ref (b + (113 + r))
      rw [Nat.add_assoc]
theorem zcell_p {G : zG} {μ ν : zM} {k : Nat} {sp : zS} (hk : zSh[k]? = some sp) : zcell (zGp G) ν k sp = zcell G (cmb μ ν) (113 + k) (zsh 113 sp) := by
  by_cases h : k = 40
  · subst h
    obtain rfl : (Sum.inr (2, 4) : zS) = sp := Option.some.inj hk
    simp only [zcell, zsh, cmb_40]
    congr 7
    funext j
    by_cases h0 : ν 40 (j : Int) = 0
    · rw [if_pos h0, if_pos h0, if_pos rfl]
    · rw [if_neg h0, if_neg h0, if_neg (by omega)]
      show some (G.1 + 113 + (ν 40 (j : Int)).toNat) = _
      congr 1
      omega
  · have h2 := zSh_k2 hk h
    rcases sp with ⟨ci, fs⟩ | ⟨t, n⟩
    · simp only [zcell, zsh, cmb_hi h]
      rw [← zfs_p]
      rfl
    · match t, h2 with
      | 0, _ => simp only [zcell, zsh, cmb_hi h]; rfl
      | 1, _ => simp only [zcell, zsh, cmb_hi h]; rfl
      | 2, h2 => cases h2
      | t + 3, _ => simp only [zcell, zsh, cmb_hi h]; rfl
theorem zSp_lo {k : Nat} (h : k < 113) : zSp[k]? = zSh[k]? := by
  unfold zSp
  rw [List.getElem?_append_left (by rw [zSh_len]; exact h)]
theorem zSp_hi (k : Nat) : zSp[113 + k]? = (zSh[k]?).map (zsh 113) := by
  unfold zSp
  rw [List.getElem?_append_right (by rw [zSh_len]; omega), zSh_len, Nat.add_sub_cancel_left, List.getElem?_map]
theorem zW2_split {G : zG} {μ ν : zM} {H : Heap} (h : zWd G zSp (cmb μ ν) H) : zE G = 0 ∧ zWd (zGo G) zSh μ H ∧ zWd (zGp G) zSh ν H := by
  have he : zE G = 0 := by
    rcases h.1.2 with e | e
    · exact e
    · rw [zSp_len] at e; omega
  have hs := h.sz he
  rw [zSp_len] at hs
  refine ⟨he, ⟨⟨by rw [hs, zSh_len]; rfl, Or.inr zSh_len⟩, fun k sp hk => ?_⟩, ⟨⟨by rw [hs, zSh_len]; show _ = G.1 + 113 + 113 + zE G; omega, Or.inr zSh_len⟩, fun k sp hk => ?_⟩⟩
  · have hl : k < 113 := by have := (List.getElem?_eq_some_iff.mp hk).1; rw [zSh_len] at this; exact this
    have h1 := h.2 k sp (by rw [zSp_lo hl]; exact hk)
    rw [zcell_o (zSh_k3 hk)]
    rw [zcell_same (μ := μ) (μ' := cmb μ ν) (cmb_lo hl)] at h1
    exact h1
  · have h1 := h.2 (113 + k) (zsh 113 sp) (by rw [zSp_hi, hk]; rfl)
    rw [← zcell_p hk, ← Nat.add_assoc] at h1
    exact h1
theorem zW2_join {G : zG} {μ ν : zM} {H : Heap} (he : zE G = 0) (h1 : zWd (zGo G) zSh μ H) (h2 : zWd (zGp G) zSh ν H) : zWd G zSp (cmb μ ν) H := by
  have hs : H.size = G.1 + 113 + 113 := by
    have := h1.1.1
    rw [zSh_len] at this
    exact this
  refine ⟨⟨by rw [hs, zSp_len, he], Or.inl he⟩, fun k sp hk => ?_⟩
  by_cases hl : k < 113
  · rw [zSp_lo hl] at hk
    have h3 := h1.2 k sp hk
    rw [zcell_o (zSh_k3 hk)] at h3
    rw [zcell_same (μ := μ) (μ' := cmb μ ν) (cmb_lo hl)]
    exact h3
  · obtain ⟨j, rfl⟩ : ∃ j, k = 113 + j := ⟨k - 113, by omega⟩
    rw [zSp_hi] at hk
    obtain ⟨sp', hk', rfl⟩ := Option.map_eq_some_iff.mp hk
    have h3 := h2.2 j sp' hk'
    rw [zcell_p (μ := μ) hk'] at h3
    show va_at G.2.1 vwCl (G.1 + (113 + j), _) H
    rw [← Nat.add_assoc]
    exact h3
def zints : List zV → Bool
  | [] => true
  | .inl _ :: t => zints t
  | _ => false
theorem zc_ints {G G' : zG} : ∀ {As : List zV}, zints As = true → As.map (zc G) = As.map (zc G')
  | [], _ => rfl
  | .inl z :: t, h => by
    simp only [List.map_cons]
    rw [zc_ints (G := G) (G' := G') (As := t) h]
    rfl
  | .inr q :: t, h => by cases h
section ZC2
variable {md : zD} {G G' : zG} {p : Program} {l : Launch} {e : Env} {s : State} {m : MethodId} {args : Array Value} {below : List Frame} {meth : Method} {c : Code} {Q : State → Prop} {cn sn : Nat} {Sh1 S' : List zS} {μ1 M1 : zM} {w : Option zV}
theorem zbk2 {H : Heap} {locs : List Loc} {ls : Array Slot} {pc mc ms : Nat} {st0 : List Value} {rest : List zV} {lv : zL} {a : Array Value} (hr : va_Run p l e md.2.2.2.2.1 s m args below meth c H locs cn sn mc ms (F0 m pc ls st0) (rest.map (zc G)) (zQc G' w S' μ1 a) (zfr G')) (hS : va_S (zfr G) s.heap H locs) (hls : lv_has ls md.2.2.1 (zlm G lv))
    (hfr : ∀ q, zfr G' q → zfr G q) (hwv : w.map (zc G') = w.map (zc G)) (hj : ∀ H1 : Heap, zWd G' S' μ1 H1 → H.size ≤ H1.size → (∀ q : Nat, q < H.size → ¬ zfr G' q → H1[q]? = H[q]?) → zWd G Sh1 M1 H1)
    (kk : zW md G p l e s m args below meth c Q (cn + mc) (sn + ms) (pc + 3) lv (w.toList ++ rest) Sh1 M1) : W p l e md.2.2.2.2.1 s m args below meth c H locs cn sn Q (F0 m pc ls st0) := by
  intro T hT X
  obtain ⟨v, st₀, t, T', L, h0, X', hL, e1, e2, ⟨hv, hw1, hF1, hF2⟩, st⟩ := hr T hT X
  cases (Outcome.returned.inj hv)
  rw [h0] at hF1 hF2
  have hk := kk T'.heap (locs ++ L) ls (by rw [e1]; exact hj _ hw1 hF1 hF2) ⟨Nat.le_trans hS.1 (by rw [e1]; exact hF1), fun q h1 h2 => by rw [e1, hF2 q (Nat.lt_of_lt_of_le h1 hS.1) (fun h => h2 (hfr q h))]; exact hS.2.1 q h1 h2, fun q hq => by
      rcases List.mem_append.mp hq with h | h
      · exact hS.2.2 q h
      · exact hfr _ (hL q h)⟩ hls T' rfl X'
  obtain ⟨t2, a1, b1⟩ := hk
  refine ⟨t2, st t2 ?_, b1⟩
  have e3 : (w.map (zc G')).toList ++ rest.map (zc G) = (w.toList ++ rest).map (zc G) := by rw [hwv]; cases w <;> simp
  rw [e3]
  exact a1
end ZC2
theorem zfr_o {G : zG} (he : zE G = 0) (q : Nat) (h : zfr (zGo G) q) : zfr G q := ⟨h.1, Or.inl he⟩
theorem zfr_p {G : zG} (he : zE G = 0) (q : Nat) (h : zfr (zGp G) q) : zfr G q := ⟨Nat.le_trans (Nat.le_add_right _ 113) h.1, Or.inl he⟩
theorem zW2_o {G : zG} {μ1 ν : zM} {H H1 : Heap} (he : zE G = 0) (h2 : zWd (zGp G) zSh ν H) (h1 : zWd (zGo G) zSh μ1 H1) (hk : ∀ q : Nat, q < H.size → ¬ zfr (zGo G) q → H1[q]? = H[q]?) : zWd G zSp (cmb μ1 ν) H1 := by
  refine zW2_join he h1 ⟨⟨?_, h2.1.2⟩, fun k sp hkk => (h2.2 k sp hkk).kept (hk _ (h2.2 k sp hkk).lt (fun h => ?_))⟩
  · have a := h1.1.1
    rw [zSh_len] at a
    rw [a, zSh_len]
    show G.1 + 113 + 113 = G.1 + 113 + 113 + zE G
    omega
  · rcases h.2 with e | e
    · exact absurd (show (113 : Nat) = 0 from e) (by decide)
    · have e' : G.1 + 113 + k < G.1 + 113 := e
      omega
theorem zW2_p {G : zG} {μ ν1 : zM} {H H1 : Heap} (he : zE G = 0) (h1 : zWd (zGo G) zSh μ H) (h2 : zWd (zGp G) zSh ν1 H1) (hk : ∀ q : Nat, q < H.size → ¬ zfr (zGp G) q → H1[q]? = H[q]?) : zWd G zSp (cmb μ ν1) H1 := by
  refine zW2_join he ⟨⟨?_, h1.1.2⟩, fun k sp hkk => (h1.2 k sp hkk).kept (hk _ (h1.2 k sp hkk).lt (fun h => ?_))⟩ h2
  · have a := h2.1.1
    rw [zSh_len] at a
    rw [a, zSh_len]
    show G.1 + 113 + 113 + zE G = G.1 + 113 + 113
    omega
  · have hl : k < 113 := by have := (List.getElem?_eq_some_iff.mp hkk).1; rw [zSh_len] at this; exact this
    have e' : G.1 + 113 ≤ G.1 + k := h.1
    omega
section ZD2
variable {md : zD} {C : zG → Array Value → State → Prop} {F : zG → List Frame → Array Value → State → State → Prop} {cn sn pc : Nat} {lv : zL} {st : List zV} {μ ν μ1 ν1 : zM} {mc : zD} {idx n : Nat} {As rest : List zV} {z : Int}
/-- a call of the first object's method: an int comes back -/
theorem Az.oV (hd : decode md.2.1 pc = .ok (.invokevirtual idx, 3)) (hl : Cond.methodLink (zcn md.2.2.2.2.2) idx mc.1 ∈ wz) (hm : zOKi mc n) (hn : As.length = n) (ho : zcn mc.2.2.2.2.2 = mc.1.cls) (hb : (zrmb md mc && zrm0 mc) = true) (hr : zob zSh 0 mc.2.2.2.2.2 fun _ => True) (hA : zints As = true) (hD : Dz mc (zr 0 :: As) zSh μ (some (zi z)) zSh μ1) (hst : st = As.reverse ++ zr 0 :: rest) (hW : Nat.ble rest.length 4 = true)
    (kk : Az md C F cn sn (pc + 3) lv (zi z :: rest) zSp (cmb μ1 ν)) (hc : (Nat.ble cn md.2.2.2.2.1.cells && Nat.ble sn md.2.2.2.2.1.slots) = true := by rfl) : Az md C F cn sn pc lv st zSp (cmb μ ν) := by
  obtain ⟨hb, z1, z2, hc1, hc2⟩ := zrm0_ok hb hc
  subst hst
  intro G p l e s m args below meth c hX hC H locs ls hw hS hls
  have hX' := hX
  obtain ⟨hx, hcd, hml, hown, hts, hret, hlk, hKK, -⟩ := hX'
  have hb := zrmb_ok hb
  obtain ⟨he, w1, w2⟩ := zW2_split hw
  have hKo : zK (zGo G) s := hKK
  refine zbk2 (G' := zGo G) (mc := mc.2.2.2.2.1.cells) (ms := mc.2.2.2.2.1.slots) (va_runV (C := mc.1.cls) (b := G.1 + 0) (As := As.map (zc G)) (rest := rest.map (zc G)) (n := n) ⟨hx, hcd, hml, hown, hts⟩ (hD l (zGo G) (fun h => absurd h hm.2.2.2)) ⟨⟨rfl, rfl, hb.1, hb.2, zpay hts hm.1, List.mem_cons_self, hts _ hm.1.1, hts _ hm.1.2.1, hm.1.2.2.1, zparm hm.1, hts _ hl⟩, hts _ hm.2.1, hts _ hm.2.2.1⟩ ⟨zPc_blind _ _ _ _, ?_, fun U hU hW => ⟨by rw [zc_ints (G' := zGo G) hA]; rfl, by rw [hU]; exact w1, hKo.warm hW⟩⟩ rfl (by simpa using hn) hls.1 (by simp [zc]) (lv_room (Nat.le_trans (zcatsum G rest) (by have := Nat.le_of_ble_eq_true hW; omega))) hd (by rw [z1, z2]; exact ⟨hc1, hc2⟩)) hS hls (zfr_o he) rfl (fun H1 h1 _ hk => zW2_o he w2 h1 hk) (by rw [z1, z2]; exact kk G p l e s m args below meth c hX hC)
  have h1 := zrecv hKo w1 hr
  rw [ho] at h1
  exact h1
/-- a call of the second object's method -/
theorem Az.pV (hd : decode md.2.1 pc = .ok (.invokevirtual idx, 3)) (hl : Cond.methodLink (zcn md.2.2.2.2.2) idx mc.1 ∈ wz) (hm : zOKi mc n) (hn : As.length = n) (ho : zcn mc.2.2.2.2.2 = mc.1.cls) (hb : (zrmb md mc && zrm0 mc) = true) (hr : zob zSh 0 mc.2.2.2.2.2 fun _ => True) (hA : zints As = true) (hD : Dz mc (zr 0 :: As) zSh ν (some (zi z)) zSh ν1) (hst : st = As.reverse ++ zr 113 :: rest) (hW : Nat.ble rest.length 4 = true)
    (kk : Az md C F cn sn (pc + 3) lv (zi z :: rest) zSp (cmb μ ν1)) (hc : (Nat.ble cn md.2.2.2.2.1.cells && Nat.ble sn md.2.2.2.2.1.slots) = true := by rfl) : Az md C F cn sn pc lv st zSp (cmb μ ν) := by
  obtain ⟨hb, z1, z2, hc1, hc2⟩ := zrm0_ok hb hc
  subst hst
  intro G p l e s m args below meth c hX hC H locs ls hw hS hls
  have hX' := hX
  obtain ⟨hx, hcd, hml, hown, hts, hret, hlk, hKK, -⟩ := hX'
  have hb := zrmb_ok hb
  obtain ⟨he, w1, w2⟩ := zW2_split hw
  have hKp : zK (zGp G) s := hKK
  refine zbk2 (G' := zGp G) (mc := mc.2.2.2.2.1.cells) (ms := mc.2.2.2.2.1.slots) (va_runV (C := mc.1.cls) (b := G.1 + 113) (As := As.map (zc G)) (rest := rest.map (zc G)) (n := n) ⟨hx, hcd, hml, hown, hts⟩ (hD l (zGp G) (fun h => absurd h hm.2.2.2)) ⟨⟨rfl, rfl, hb.1, hb.2, zpay hts hm.1, List.mem_cons_self, hts _ hm.1.1, hts _ hm.1.2.1, hm.1.2.2.1, zparm hm.1, hts _ hl⟩, hts _ hm.2.1, hts _ hm.2.2.1⟩ ⟨zPc_blind _ _ _ _, ?_, fun U hU hW => ⟨by rw [zc_ints (G' := zGp G) hA]; rfl, by rw [hU]; exact w2, hKp.warm hW⟩⟩ rfl (by simpa using hn) hls.1 (by simp [zc]) (lv_room (Nat.le_trans (zcatsum G rest) (by have := Nat.le_of_ble_eq_true hW; omega))) hd (by rw [z1, z2]; exact ⟨hc1, hc2⟩)) hS hls (zfr_p he) rfl (fun H1 h1 _ hk => zW2_p he w1 h1 hk) (by rw [z1, z2]; exact kk G p l e s m args below meth c hX hC)
  have h1 := zrecv hKp w2 hr
  rw [ho] at h1
  exact h1
/-- two ints that are one: a branch on 'not equal' goes on, one on 'equal' jumps -/
theorem Az.icne {Sh : List zS} {a b : Int} {o : Int} {t : List zV} {tg : Nat} (hd : decode md.2.1 pc = .ok (.if_icmp .ne o, 3)) (ht : (pc : Int) + o = (tg : Int)) (hst : st = zi b :: zi a :: t) (h : a = b) (kk : Az md C F cn sn (pc + 3) lv t Sh μ) : Az md C F cn sn pc lv st Sh μ := by
  subst h; subst hst
  intro G p l e s m args below meth c hX hC H locs ls hw hS hls
  exact lv_icmp_ne hX.1 hX.2.1 hd ht (fun q => absurd rfl q) (fun _ => kk G p l e s m args below meth c hX hC H locs ls hw hS hls)
end ZD2
