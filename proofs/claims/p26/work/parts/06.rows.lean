/-! what a method does, and the rows of calls and ends -/
def Az (md : zD) (C : zG → Array Value → State → Prop) (F : zG → List Frame → Array Value → State → State → Prop) (cn sn pc : Nat) (lv : zL) (st : List zV) (Sh : List zS) (μ : zM) : Prop :=
  ∀ (G : zG) (p : Program) (l : Launch) (e : Env) (s : State) (m : MethodId) (args : Array Value) (below : List Frame) (meth : Method) (c : Code), zX md G p s m args meth c → C G args s → zW md G p l e s m args below meth c (F G below args s) cn sn pc lv st Sh μ
def zQc (G : zG) (v : Option zV) (Sh : List zS) (μ : zM) : Array Value → State → Outcome → State → Prop := fun _ s o t => o = .returned (v.map (zc G)) ∧ zWd G Sh μ t.heap ∧ va_F (zfr G) s t
def zPc (G : zG) (As : List zV) (Sh : List zS) (μ : zM) : Array Value → State → Prop := fun a U => a = (As.map (zc G)).toArray ∧ zWd G Sh μ U.heap ∧ zK G U
def zF (md : zD) (v : Option zV) (Sh : List zS) (μ : zM) : zG → List Frame → Array Value → State → State → Prop := fun G below args s => MQ below (zQc G v Sh μ) args s md.2.2.2.2.1.cells md.2.2.2.2.1.slots (zfr G)
def zT : zG → Array Value → State → Prop := fun _ _ _ => True
abbrev Ez (md : zD) (cn sn pc : Nat) (lv : zL) (st : List zV) (Sh : List zS) (μ : zM) (v : Option zV) (Sh' : List zS) (μ' : zM) : Prop := Az md zT (zF md v Sh' μ') cn sn pc lv st Sh μ
def Dz (md : zD) (As : List zV) (Sh : List zS) (μ : zM) (v : Option zV) (Sh' : List zS) (μ' : zM) : Prop :=
  ∀ (l : Launch) (G : zG), (md.1.name = "<init>" → zE G = 0) → Met l md.1 (Cond.code md.1 md.2.1 md.2.2.1 md.2.2.2.1 :: wz) md.2.2.2.2.1 (zPc G As Sh μ) (zQc G v Sh' μ') md.2.2.2.2.1.cells md.2.2.2.2.1.slots (zfr G)
theorem zPc_blind (G : zG) (As : List zV) (Sh : List zS) (μ : zM) : FrameBlind (zPc G As Sh μ) := fun a _ g mk q => ⟨q.1, q.2.1, q.2.2.calling g mk a⟩
def zent : Nat → List zV → zL
  | _, [] => []
  | i, v :: vs => (i, v) :: zent (match zcat v with | true => i + 2 | false => i + 1) vs
def zsz : List zV → Nat
  | [] => 0
  | v :: vs => (match zcat v with | true => 2 | false => 1) + zsz vs
theorem zent_args (G : zG) : ∀ (As : List zV) (i : Nat), lv_args i (As.map (zc G)) = zlm G (zent i As)
  | [], _ => rfl
  | v :: vs, i => by
    show (i, zc G v) :: lv_args _ (vs.map (zc G)) = (i, zc G v) :: zlm G _
    rw [zc_cat]
    cases h : zcat v with
    | true => simp only [if_true]; rw [zent_args G vs]
    | false => simp only [Bool.false_eq_true, if_false]; rw [if_neg (by decide)]; rw [zent_args G vs]
theorem zsz_len (G : zG) : ∀ (As : List zV), (lg_sl (As.map (zc G))).length = zsz As
  | [] => rfl
  | v :: vs => by
    have ih := zsz_len G vs
    simp only [lg_sl, List.map_cons, List.flatMap_cons, List.length_append] at ih ⊢
    rw [ih, zc_cat]
    cases h : zcat v <;> simp [zsz, h]
theorem Dz.of {md : zD} {As : List zV} {Sh : List zS} {μ : zM} {v : Option zV} {Sh' : List zS} {μ' : zM} (hy : plainName md.1.cls = true) (ho : zcn md.2.2.2.2.2 = md.1.cls) (hn : Nat.ble (zsz As) md.2.2.1 = true) (h : Ez md 0 0 0 (zent 0 As) [] Sh μ v Sh' μ') : Dz md As Sh μ v Sh' μ' := by
  intro l G hi0
  refine Met.ofW (cc := md.2.1) (maxL := md.2.2.1) (ret := md.2.2.2.1) hy rfl ?_
  intro p e s m args below meth c s₁ B hml hv
  obtain ⟨rfl, hw, hK⟩ := hv
  have hts := atoms_spec (ws := Cond.code md.1 md.2.1 md.2.2.1 md.2.2.2.1 :: wz) B.pre
  have hX : zX md G p s m (As.map (zc G)).toArray meth c := ⟨B.exec, B.bytes, hml, by rw [ho]; exact findClass_of_methodNamed B.named, fun w hw => hts w (List.mem_cons_of_mem _ hw), B.returns, B.notSynchronized, hK, fun hi => (name_of_methodNamed B.named B.method).1.trans hi, hi0⟩
  rw [lg_entry_eq]
  have hl := lv_entry (As.map (zc G)) (n := md.2.2.1) (by rw [zsz_len]; exact Nat.le_of_ble_eq_true hn)
  rw [zent_args] at hl
  exact h G p l e s m _ below meth c hX trivial s.heap [] _ hw va_S.rf hl
section ZA
variable {md : zD} {C : zG → Array Value → State → Prop} {F : zG → List Frame → Array Value → State → State → Prop} {cn sn pc : Nat} {lv : zL} {st : List zV} {Sh : List zS} {μ : zM}
theorem Az.blk {is : List zI} (hd : zdec md pc is = true) (h : zw Sh (fun pc lv st μ => Az md C F cn sn pc lv st Sh μ) is pc lv st μ) : Az md C F cn sn pc lv st Sh μ := by
  intro G p l e s m args below meth c hX hC
  exact zw_ok hX (fun pc lv st μ h => h G p l e s m args below meth c hX hC) is pc hd lv st μ h
/-- fewer locals, in another order -/
theorem Az.lvs {lv' : zL} (h : ∀ q ∈ lv', zlk lv q.1 = some q.2) (kk : Az md C F cn sn pc lv' st Sh μ) : Az md C F cn sn pc lv st Sh μ := by
  intro G p l e s m args below meth c hX hC H locs ls hw hS hls
  refine kk G p l e s m args below meth c hX hC H locs ls hw hS ⟨hls.1, hls.2.1, fun q hq => ?_⟩
  obtain ⟨q', h1, rfl⟩ := List.mem_map.mp hq
  exact zlv_at hls (h q' h1)
theorem Az.widen {k n : Nat} (h1 : cn ≤ k) (h2 : sn ≤ n) (kk : Az md C F k n pc lv st Sh μ) : Az md C F cn sn pc lv st Sh μ :=
  fun G p l e s m args below meth c hX hC H locs ls hw hS hls => W.widen h1 h2 (kk G p l e s m args below meth c hX hC H locs ls hw hS hls)
/-- the same cells, by other words -/
theorem Az.mem {μ' : zM} (h : ∀ (G : zG) (k : Nat) (sp : zS) (H : Heap), Sh[k]? = some sp → va_at G.2.1 vwCl (G.1 + k, zcell G μ k sp) H → va_at G.2.1 vwCl (G.1 + k, zcell G μ' k sp) H) (kk : Az md C F cn sn pc lv st Sh μ') : Az md C F cn sn pc lv st Sh μ :=
  fun G p l e s m args below meth c hX hC H locs ls hw hS hls => kk G p l e s m args below meth c hX hC H locs ls ⟨hw.1, fun k sp hk => h G k sp H hk (hw.2 k sp hk)⟩ hS hls
/-- 'ifnull' on a reference: it goes on -/
theorem Az.nnul {k : Nat} {t : List zV} {o : Int} (hd : decode md.2.1 pc = .ok (.ifnull o, 3)) (hst : st = zr k :: t) (kk : Az md C F cn sn (pc + 3) lv t Sh μ) : Az md C F cn sn pc lv st Sh μ := by
  subst hst
  intro G p l e s m args below meth c hX hC H locs ls hw hS hls
  have hX' := hX
  obtain ⟨hx, hcd, -⟩ := hX'
  exact lv_ifnull hx hcd hd (kk G p l e s m args below meth c hX hC H locs ls hw hS hls)
end ZA
section ZE
variable {md : zD} {cn sn pc : Nat} {lv : zL} {Sh : List zS} {μ : zM} {v : Option zV} {μ' : zM}
theorem Ez.iret {z : Int} (hd : decode md.2.1 pc = .ok (.ireturn, 1)) (hr : md.2.2.2.1 = some .int) (hc : cn ≤ md.2.2.2.2.1.cells) (hs : sn ≤ md.2.2.2.2.1.slots) (hv : some (zi z) = v) (hμ : μ = μ') : Ez md cn sn pc lv [zi z] Sh μ v Sh μ' := by
  subst hv; subst hμ
  intro G p l e s m args below meth c hX _ H locs ls hw hS hls
  obtain ⟨hx, hcd, hml, hown, hts, hret, hlk, hKK, -⟩ := hX
  exact W.widen hc hs (W.iret hx hcd (by rw [hret, hr]) (fun t ht _ => ⟨rfl, by rw [ht]; exact hw, hS.F ht⟩) hS.2.2 hd hlk)
theorem Ez.zret {z : Int} (hd : decode md.2.1 pc = .ok (.ireturn, 1)) (hr : md.2.2.2.1 = some .boolean) (hc : cn ≤ md.2.2.2.2.1.cells) (hs : sn ≤ md.2.2.2.2.1.slots) (h01 : z = 0 ∨ z = 1) (hv : some (zi z) = v) (hμ : μ = μ') : Ez md cn sn pc lv [zi z] Sh μ v Sh μ' := by
  subst hv; subst hμ
  intro G p l e s m args below meth c hX _ H locs ls hw hS hls
  obtain ⟨hx, hcd, hml, hown, hts, hret, hlk, hKK, -⟩ := hX
  exact W.widen hc hs (W.zret hx hcd (by rw [hret, hr]) (by rcases h01 with rfl | rfl <;> rfl) (fun t ht _ => ⟨rfl, by rw [ht]; exact hw, hS.F ht⟩) hS.2.2 hd hlk)
theorem Ez.vret (hd : decode md.2.1 pc = .ok (.return_, 1)) (hr : md.2.2.2.1 = none) (hc : cn ≤ md.2.2.2.2.1.cells) (hs : sn ≤ md.2.2.2.2.1.slots) (hv : none = v) (hμ : μ = μ') : Ez md cn sn pc lv [] Sh μ v Sh μ' := by
  subst hv; subst hμ
  intro G p l e s m args below meth c hX _ H locs ls hw hS hls
  obtain ⟨hx, hcd, hml, hown, hts, hret, hlk, hKK, -⟩ := hX
  exact W.widen hc hs (W.vret hx hcd (by rw [hret, hr]) (fun t ht _ => ⟨rfl, by rw [ht]; exact hw, hS.F ht⟩) hS.2.2 hd hlk)
theorem Ez.aret {k : Nat} {cl : String} (hd : decode md.2.1 pc = .ok (.areturn, 1)) (hr : md.2.2.2.1 = some (.object cl)) (hc : cn ≤ md.2.2.2.2.1.cells) (hs : sn ≤ md.2.2.2.2.1.slots) (hv : some (zr k) = v) (hμ : μ = μ') : Ez md cn sn pc lv [zr k] Sh μ v Sh μ' := by
  subst hv; subst hμ
  intro G p l e s m args below meth c hX _ H locs ls hw hS hls
  obtain ⟨hx, hcd, hml, hown, hts, hret, hlk, hKK, -⟩ := hX
  exact W.widen hc hs (W.aret hx hcd (by rw [hret, hr]) (Or.inl ⟨_, rfl⟩) (Or.inr ⟨_, rfl⟩) (fun t ht _ => ⟨rfl, by rw [ht]; exact hw, hS.F ht⟩) hS.2.2 hd hlk)
end ZE
/-! calls -/
def zrmb (md mc : zD) : Bool := Nat.ble (mc.2.2.2.2.1.frames + 1) md.2.2.2.2.1.frames && Nat.ble (8 + (mc.2.2.1 + 11) + mc.2.2.2.2.1.locals) md.2.2.2.2.1.locals
def zrm0 (mc : zD) : Bool := Nat.beq mc.2.2.2.2.1.cells 0 && Nat.beq mc.2.2.2.2.1.slots 0
theorem zrmb_ok {md mc : zD} (h : zrmb md mc = true) : mc.2.2.2.2.1.frames + 1 ≤ md.2.2.2.2.1.frames ∧ 8 + (mc.2.2.1 + 11) + mc.2.2.2.2.1.locals ≤ md.2.2.2.2.1.locals := by
  unfold zrmb at h
  rw [Bool.and_eq_true] at h
  exact ⟨Nat.le_of_ble_eq_true h.1, Nat.le_of_ble_eq_true h.2⟩
theorem zpay {s : State} {args : Array Value} {mc : zD} {n : Nat} (hts : ∀ w ∈ wz, w.before args s = true) (h : zOKb mc n) : ∀ w ∈ (Cond.code mc.1 mc.2.1 mc.2.2.1 mc.2.2.2.1 :: wz), ∀ (a' : Array Value) (U : State), s.WarmedH U.vm → w.before a' U = true :=
  pay_in hts fun w hw => by
    rcases List.mem_cons.mp hw with rfl | hw
    · exact ⟨h.1, good_of_word (wz_good h.1)⟩
    · exact ⟨hw, good_of_word (wz_good hw)⟩
theorem zparm {mc : zD} {n : Nat} (h : zOKb mc n) : ∀ sig, parseMethodDescriptor mc.1.desc = some sig → n = sig.parameters.length := fun sig hs => by
  have h2 := h.2.2.2
  rw [hs] at h2
  exact (Option.some.inj h2).symm
theorem zcatsum (G : zG) : ∀ rest : List zV, (((rest.map (zc G)).map fun v => v.category).sum) ≤ 2 * rest.length
  | [] => by simp
  | v :: vs => by
    have ih := zcatsum G vs
    simp only [List.map_cons, List.sum_cons, List.length_cons]
    rw [zc_cat]
    split <;> omega
section ZC
variable {md : zD} {G : zG} {p : Program} {l : Launch} {e : Env} {s : State} {m : MethodId} {args : Array Value} {below : List Frame} {meth : Method} {c : Code} {Q : State → Prop} {cn sn : Nat} {Sh Sh1 : List zS} {μ μ1 : zM} {w : Option zV}
theorem zback {H : Heap} {locs : List Loc} {ls : Array Slot} {pc mc ms : Nat} {st0 : List Value} {rest : List zV} {lv : zL} {a : Array Value} (hr : va_Run p l e md.2.2.2.2.1 s m args below meth c H locs cn sn mc ms (F0 m pc ls st0) (rest.map (zc G)) (zQc G w Sh1 μ1 a) (zfr G)) (hS : va_S (zfr G) s.heap H locs) (hls : lv_has ls md.2.2.1 (zlm G lv))
    (kk : zW md G p l e s m args below meth c Q (cn + mc) (sn + ms) (pc + 3) lv (w.toList ++ rest) Sh1 μ1) : W p l e md.2.2.2.2.1 s m args below meth c H locs cn sn Q (F0 m pc ls st0) := by
  intro T hT X
  obtain ⟨v, st₀, t, T', L, h0, X', hL, e1, e2, ⟨hv, hw1, hF1, hF2⟩, st⟩ := hr T hT X
  cases (Outcome.returned.inj hv)
  rw [h0] at hF1 hF2
  have hk := kk T'.heap (locs ++ L) ls (by rw [e1]; exact hw1) ⟨Nat.le_trans hS.1 (by rw [e1]; exact hF1), fun q h1 h2 => by rw [e1, hF2 q (Nat.lt_of_lt_of_le h1 hS.1) h2]; exact hS.2.1 q h1 h2, fun q hq => by
      rcases List.mem_append.mp hq with h | h
      · exact hS.2.2 q h
      · exact hL q h⟩ hls T' rfl X'
  obtain ⟨t2, a1, b1⟩ := hk
  refine ⟨t2, st t2 ?_, b1⟩
  have e3 : (w.map (zc G)).toList ++ rest.map (zc G) = (w.toList ++ rest).map (zc G) := by cases w <;> simp
  rw [e3]
  exact a1
theorem zrecv {H : Heap} {k ci : Nat} (hKK : zK G s) (hw : zWd G Sh μ H) (hr : zob Sh k ci fun _ => True) : ∃ cell : Cell, H[G.1 + k]? = some cell ∧ cell.vm.isStatics = false ∧ s.vm.findClass (zcn ci) = some cell.cls := by
  obtain ⟨fs, hk, -⟩ := zob_ok hr
  obtain ⟨r, h1, -⟩ := hw.one hk 0 _ rfl
  have := va_recv hKK.1 (hw.one hk) h1 (q0 := 0) rfl
  have e : zcn ci = r.1 := by
    unfold zcn
    rw [h1]
  rw [e]
  exact this
end ZC
section ZD
variable {md : zD} {C : zG → Array Value → State → Prop} {F : zG → List Frame → Array Value → State → State → Prop} {cn sn pc : Nat} {lv : zL} {st : List zV} {Sh Sh1 : List zS} {μ μ1 : zM} {mc : zD} {idx k n : Nat} {As rest : List zV} {w : Option zV}
theorem Az.cVg (hd : decode md.2.1 pc = .ok (.invokevirtual idx, 3)) (hl : Cond.methodLink (zcn md.2.2.2.2.2) idx mc.1 ∈ wz) (hm : zOKi mc n) (hn : As.length = n) (ho : zcn mc.2.2.2.2.2 = mc.1.cls) (hb : zrmb md mc = true) (hc : cn + mc.2.2.2.2.1.cells ≤ md.2.2.2.2.1.cells ∧ sn + mc.2.2.2.2.1.slots ≤ md.2.2.2.2.1.slots) (hr : zob Sh k mc.2.2.2.2.2 fun _ => True) (hD : Dz mc (zr k :: As) Sh μ w Sh1 μ1) (hst : st = As.reverse ++ zr k :: rest) (hW : Nat.ble rest.length 4 = true)
    (kk : Az md C F (cn + mc.2.2.2.2.1.cells) (sn + mc.2.2.2.2.1.slots) (pc + 3) lv (w.toList ++ rest) Sh1 μ1) : Az md C F cn sn pc lv st Sh μ := by
  subst hst
  intro G p l e s m args below meth c hX hC H locs ls hw hS hls
  have hX' := hX
  obtain ⟨hx, hcd, hml, hown, hts, hret, hlk, hKK, -⟩ := hX'
  have hb := zrmb_ok hb
  refine zback (va_runV (C := mc.1.cls) (b := G.1 + k) (As := As.map (zc G)) (rest := rest.map (zc G)) (n := n) ⟨hx, hcd, hml, hown, hts⟩ (hD l G (fun h => absurd h hm.2.2.2)) ⟨⟨rfl, rfl, hb.1, hb.2, zpay hts hm.1, List.mem_cons_self, hts _ hm.1.1, hts _ hm.1.2.1, hm.1.2.2.1, zparm hm.1, hts _ hl⟩, hts _ hm.2.1, hts _ hm.2.2.1⟩ ⟨zPc_blind _ _ _ _, ?_, fun U hU hW => ⟨rfl, by rw [hU]; exact hw, hKK.warm hW⟩⟩ rfl (by simpa using hn) hls.1 (by simp [zc]) (lv_room (Nat.le_trans (zcatsum G rest) (by have := Nat.le_of_ble_eq_true hW; omega))) hd hc) hS hls (kk G p l e s m args below meth c hX hC)
  have h1 := zrecv hKK hw hr
  rw [ho] at h1
  exact h1
theorem Az.cVNg {host : String} (hd : decode md.2.1 pc = .ok (.invokevirtual idx, 3)) (hl : Cond.methodLinkNest (zcn md.2.2.2.2.2) idx mc.1 host ∈ wn) (hm : zOKi mc n) (hn : As.length = n) (ho : zcn mc.2.2.2.2.2 = mc.1.cls) (hb : zrmb md mc = true) (hc : cn + mc.2.2.2.2.1.cells ≤ md.2.2.2.2.1.cells ∧ sn + mc.2.2.2.2.1.slots ≤ md.2.2.2.2.1.slots) (hr : zob Sh k mc.2.2.2.2.2 fun _ => True) (hD : Dz mc (zr k :: As) Sh μ w Sh1 μ1) (hst : st = As.reverse ++ zr k :: rest) (hW : Nat.ble rest.length 4 = true)
    (kk : Az md C F (cn + mc.2.2.2.2.1.cells) (sn + mc.2.2.2.2.1.slots) (pc + 3) lv (w.toList ++ rest) Sh1 μ1) : Az md C F cn sn pc lv st Sh μ := by
  subst hst
  intro G p l e s m args below meth c hX hC H locs ls hw hS hls
  have hX' := hX
  obtain ⟨hx, hcd, hml, hown, hts, hret, hlk, hKK, -⟩ := hX'
  have hb := zrmb_ok hb
  refine zback (va_runVN (C := mc.1.cls) (b := G.1 + k) (As := As.map (zc G)) (rest := rest.map (zc G)) (n := n) ⟨hx, hcd, hml, hown, hts⟩ (hD l G (fun h => absurd h hm.2.2.2)) ⟨⟨⟨rfl, rfl, hb.1, hb.2, zpay hts hm.1, List.mem_cons_self⟩, hts _ hm.1.1, hts _ hm.1.2.1, hm.1.2.2.1, zparm hm.1, va_Nw.use rfl (hKK.2.1 _ hl)⟩, hts _ hm.2.1, hts _ hm.2.2.1⟩ ⟨zPc_blind _ _ _ _, ?_, fun U hU hW => ⟨rfl, by rw [hU]; exact hw, hKK.warm hW⟩⟩ rfl (by simpa using hn) hls.1 (by simp [zc]) (lv_room (Nat.le_trans (zcatsum G rest) (by have := Nat.le_of_ble_eq_true hW; omega))) hd hc) hS hls (kk G p l e s m args below meth c hX hC)
  have h1 := zrecv hKK hw hr
  rw [ho] at h1
  exact h1
theorem Az.cSg (hd : decode md.2.1 pc = .ok (.invokestatic idx, 3)) (hl : Cond.methodLink (zcn md.2.2.2.2.2) idx mc.1 ∈ wz) (hm : zOKs mc n) (hn : As.length = n) (hb : zrmb md mc = true) (hc : cn + mc.2.2.2.2.1.cells ≤ md.2.2.2.2.1.cells ∧ sn + mc.2.2.2.2.1.slots ≤ md.2.2.2.2.1.slots) (hD : Dz mc As Sh μ w Sh1 μ1) (hst : st = As.reverse ++ rest) (hW : Nat.ble rest.length 4 = true)
    (kk : Az md C F (cn + mc.2.2.2.2.1.cells) (sn + mc.2.2.2.2.1.slots) (pc + 3) lv (w.toList ++ rest) Sh1 μ1) : Az md C F cn sn pc lv st Sh μ := by
  subst hst
  intro G p l e s m args below meth c hX hC H locs ls hw hS hls
  have hX' := hX
  obtain ⟨hx, hcd, hml, hown, hts, hret, hlk, hKK, -⟩ := hX'
  have hb := zrmb_ok hb
  exact zback (va_runS (As := As.map (zc G)) (rest := rest.map (zc G)) (n := n) ⟨hx, hcd, hml, hown, hts⟩ (hD l G (fun h => absurd h hm.2.2)) ⟨⟨rfl, rfl, hb.1, hb.2, zpay hts hm.1, List.mem_cons_self, hts _ hm.1.1, hts _ hm.1.2.1, hm.1.2.2.1, zparm hm.1, hts _ hl⟩, hts _ hm.2.1⟩ ⟨zPc_blind _ _ _ _, fun U hU hW => ⟨rfl, by rw [hU]; exact hw, hKK.warm hW⟩⟩ rfl (by simpa using hn) hls.1 (by simp) (lv_room (Nat.le_trans (zcatsum G rest) (by have := Nat.le_of_ble_eq_true hW; omega))) hd hc) hS hls (kk G p l e s m args below meth c hX hC)
theorem Az.cSNg {host : String} (hd : decode md.2.1 pc = .ok (.invokestatic idx, 3)) (hl : Cond.methodLinkNest (zcn md.2.2.2.2.2) idx mc.1 host ∈ wn) (hm : zOKs mc n) (hn : As.length = n) (hb : zrmb md mc = true) (hc : cn + mc.2.2.2.2.1.cells ≤ md.2.2.2.2.1.cells ∧ sn + mc.2.2.2.2.1.slots ≤ md.2.2.2.2.1.slots) (hD : Dz mc As Sh μ w Sh1 μ1) (hst : st = As.reverse ++ rest) (hW : Nat.ble rest.length 4 = true)
    (kk : Az md C F (cn + mc.2.2.2.2.1.cells) (sn + mc.2.2.2.2.1.slots) (pc + 3) lv (w.toList ++ rest) Sh1 μ1) : Az md C F cn sn pc lv st Sh μ := by
  subst hst
  intro G p l e s m args below meth c hX hC H locs ls hw hS hls
  have hX' := hX
  obtain ⟨hx, hcd, hml, hown, hts, hret, hlk, hKK, -⟩ := hX'
  have hb := zrmb_ok hb
  exact zback (va_runSN (As := As.map (zc G)) (rest := rest.map (zc G)) (n := n) ⟨hx, hcd, hml, hown, hts⟩ (hD l G (fun h => absurd h hm.2.2)) ⟨⟨⟨rfl, rfl, hb.1, hb.2, zpay hts hm.1, List.mem_cons_self⟩, hts _ hm.1.1, hts _ hm.1.2.1, hm.1.2.2.1, zparm hm.1, va_Nw.use rfl (hKK.2.1 _ hl)⟩, hts _ hm.2.1, trivial⟩ ⟨zPc_blind _ _ _ _, fun U hU hW => ⟨rfl, by rw [hU]; exact hw, hKK.warm hW⟩⟩ rfl (by simpa using hn) hls.1 (by simp) (lv_room (Nat.le_trans (zcatsum G rest) (by have := Nat.le_of_ble_eq_true hW; omega))) hd hc) hS hls (kk G p l e s m args below meth c hX hC)
theorem Az.cIg (hd : decode md.2.1 pc = .ok (.invokespecial idx, 3)) (hl : Cond.methodLink (zcn md.2.2.2.2.2) idx mc.1 ∈ wz) (hm : zOKc mc n) (hret0 : mc.2.2.2.1 = none) (hn : As.length = n) (hb : zrmb md mc = true) (hc : cn + mc.2.2.2.2.1.cells ≤ md.2.2.2.2.1.cells ∧ sn + mc.2.2.2.2.1.slots ≤ md.2.2.2.2.1.slots) (hD : Dz mc (zr k :: As) Sh μ w Sh1 μ1) (hst : st = As.reverse ++ zr k :: rest) (hW : Nat.ble rest.length 4 = true)
    (kk : Az md C F (cn + mc.2.2.2.2.1.cells) (sn + mc.2.2.2.2.1.slots) (pc + 3) lv (w.toList ++ rest) Sh1 μ1) (hi : md.1.name = "<init>" := by rfl) : Az md C F cn sn pc lv st Sh μ := by
  subst hst
  intro G p l e s m args below meth c hX hC H locs ls hw hS hls
  have hX' := hX
  obtain ⟨hx, hcd, hml, hown, hts, hret, hlk, hKK, -, hi0⟩ := hX'
  have hb := zrmb_ok hb
  exact zback (va_runI (bytes := mc.2.1) (maxL := mc.2.2.1) (ws := Cond.code mc.1 mc.2.1 mc.2.2.1 mc.2.2.2.1 :: wz) (b := G.1 + k) (As := As.map (zc G)) (rest := rest.map (zc G)) (n := n) ⟨hx, hcd, hml, hown, hts⟩ (hD l G (fun _ => hi0 hi)) ⟨⟨rfl, rfl, hb.1, hb.2, zpay hts hm.1, by rw [hret0]; exact List.mem_cons_self, by rw [← hret0]; exact hts _ hm.1.1, hts _ hm.1.2.1, hm.1.2.2.1, zparm hm.1, hts _ hl⟩, hm.2.2, hts _ hm.2.1⟩ ⟨zPc_blind _ _ _ _, fun U hU hW => ⟨rfl, by rw [hU]; exact hw, hKK.warm hW⟩⟩ rfl (by simpa using hn) hls.1 (by simp [zc]) (lv_room (Nat.le_trans (zcatsum G rest) (by have := Nat.le_of_ble_eq_true hW; omega))) hd hc) hS hls (kk G p l e s m args below meth c hX hC)
theorem Az.cINg {host : String} (hd : decode md.2.1 pc = .ok (.invokespecial idx, 3)) (hl : Cond.methodLinkNest (zcn md.2.2.2.2.2) idx mc.1 host ∈ wn) (hm : zOKc mc n) (hret0 : mc.2.2.2.1 = none) (hn : As.length = n) (hb : zrmb md mc = true) (hc : cn + mc.2.2.2.2.1.cells ≤ md.2.2.2.2.1.cells ∧ sn + mc.2.2.2.2.1.slots ≤ md.2.2.2.2.1.slots) (hD : Dz mc (zr k :: As) Sh μ w Sh1 μ1) (hst : st = As.reverse ++ zr k :: rest) (hW : Nat.ble rest.length 4 = true)
    (kk : Az md C F (cn + mc.2.2.2.2.1.cells) (sn + mc.2.2.2.2.1.slots) (pc + 3) lv (w.toList ++ rest) Sh1 μ1) (hi : md.1.name = "<init>" := by rfl) : Az md C F cn sn pc lv st Sh μ := by
  subst hst
  intro G p l e s m args below meth c hX hC H locs ls hw hS hls
  have hX' := hX
  obtain ⟨hx, hcd, hml, hown, hts, hret, hlk, hKK, -, hi0⟩ := hX'
  have hb := zrmb_ok hb
  exact zback (va_runIN (bytes := mc.2.1) (maxL := mc.2.2.1) (ws := Cond.code mc.1 mc.2.1 mc.2.2.1 mc.2.2.2.1 :: wz) (b := G.1 + k) (As := As.map (zc G)) (rest := rest.map (zc G)) (n := n) ⟨hx, hcd, hml, hown, hts⟩ (hD l G (fun _ => hi0 hi)) ⟨⟨⟨rfl, rfl, hb.1, hb.2, zpay hts hm.1, by rw [hret0]; exact List.mem_cons_self⟩, by rw [← hret0]; exact hts _ hm.1.1, hts _ hm.1.2.1, hm.1.2.2.1, zparm hm.1, va_Nw.use rfl (hKK.2.1 _ hl)⟩, hm.2.2, hts _ hm.2.1⟩ ⟨zPc_blind _ _ _ _, fun U hU hW => ⟨rfl, by rw [hU]; exact hw, hKK.warm hW⟩⟩ rfl (by simpa using hn) hls.1 (by simp [zc]) (lv_room (Nat.le_trans (zcatsum G rest) (by have := Nat.le_of_ble_eq_true hW; omega))) hd hc) hS hls (kk G p l e s m args below meth c hX hC)
end ZD
