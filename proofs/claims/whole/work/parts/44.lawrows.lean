/-! THE CLAIM OUT OF ONE WALK OF THE LAW'S BODY. Your part is whole_start (and what it stands on); all else here is the same for every law, but numbers. -/
def R_law : String := "TaleHolesLaw"
def lw_P (b : Addr) (xs : List Int32) (args : Array Value) (s : State) : Prop := args = #[.ref b] ∧ s.IntsAt b xs ∧ xs.length ≤ 2560 ∧ (Jvm.Cond.and given_1 narrow_1).before args s = true
def lw_Q (_ : Array Value) (s : State) (o : Outcome) (t : State) : Prop := o = .returned (some (.int 1)) ∧ Framed s o t [] 600000 7302250
def lw_Z (below : List Frame) (a : Array Value) (s : State) : State → Prop := fun t => ∃ o, t.status = .running ∧ Ended t below o ∧ lw_Q a s o t
/-- the law's own end, with 1 on the stack, nothing written that was there before, its room as the claim has it -/
theorem lw_ret {p : Program} {l : Launch} {e : Env} {s : State} {m : MethodId} {below : List Frame} {meth : Method} {c : Code} {b : Nat} (hx : p.tables.exec = Jvm.exec) (hb : c.code = code) (hr : meth.sig.returnType = ret) (hlocks : meth.locks = false) {pc : Nat} {H : Heap} {ls : Array Slot} (hdg : decode code pc = .ok (.ireturn, 1)) : W p l e room_1 s m #[Value.ref b] below meth c H [] 600000 7302250 (lw_Z below #[Value.ref b] s) (F0 m pc ls [.int 1]) := by
  intro T hT X
  obtain ⟨fs, hret, hrun, hended, hW, hframe⟩ := X.leave (v := some (.int 1)) (hlocks := hlocks) (fun h => by rw [hr] at h; cases h)
  have hmeth' : T.vm.method? m = some meth := X.method'
  refine ⟨T.setFrames fs, ?_, .returned (some (.int 1)), hrun, hended, rfl, ⟨_, rfl⟩, hW, hframe⟩
  jvm_step X.here [X.here.top, hx, hb, hdg, hmeth', hr, ret, narrow_b1]
  (try refine ⟨rfl, ?_⟩); (try refine ⟨rfl, ?_⟩)
  first | (intro acts; rw [hret _ acts rfl rfl rfl]) | rw [hret _ _ rfl rfl rfl]
  exact Steps.refl _
/-- what holds at the law's entry: the machine, the code, the tables' words (any of lw_tbl by 'hts w (by decide +kernel)'), the script of L ints xs at the cell b, what the Statement gives of the start (any of its parts by flat_of_before) -/
def lw_At (p : Program) (s : State) (m : MethodId) (meth : Method) (c : Code) (b L : Nat) (xs : Nat → Int32) : Prop :=
  p.tables.exec = Jvm.exec ∧ c.code = code ∧ meth.sig.returnType = ret ∧ c.maxLocals = 4 ∧ s.vm.findClass R_law = some m.cls ∧ (∀ w ∈ lw_tbl, w.before #[Value.ref b] s = true) ∧ va_X b L xs s s.heap ∧ b < s.heap.size ∧ meth.locks = false ∧ (Jvm.Cond.and given_1 narrow_1).before #[Value.ref b] s = true
/-! the law's own rows: as the abstract machine's, with the script's cell in a local -/
def LW (G : zG) (p : Program) (l : Launch) (e : Env) (s : State) (m : MethodId) (below : List Frame) (meth : Method) (c : Code) (b : Nat) (cn sn pc : Nat) (lv : List (Nat × Value)) (st : List zV) (Sh : List zS) (μ : zM) : Prop :=
  ∀ (H : Heap) (locs : List Loc) (ls : Array Slot), zWd G Sh μ H → va_S (fun q => G.1 ≤ q) s.heap H locs → lv_has ls 4 lv → W p l e room_1 s m #[Value.ref b] below meth c H locs cn sn (lw_Z below #[Value.ref b] s) (F0 m pc ls (st.map (zc G)))
def LC (G : zG) (p : Program) (s : State) (m : MethodId) (meth : Method) (c : Code) (b L : Nat) (xs : Nat → Int32) : Prop := zX md_law G p s m #[Value.ref b] meth c ∧ va_X b L xs s s.heap ∧ b < s.heap.size ∧ G.1 = s.heap.size ∧ L ≤ 2560
def LV (G : zG) (b i : Nat) : List (Nat × Value) := [(0, Value.ref b), (1, Value.ref (G.1 + 0)), (2, Value.ref (G.1 + 113)), (3, Value.int (nI i))]
section LAW
variable {G : zG} {p : Program} {l : Launch} {e : Env} {s : State} {m : MethodId} {below : List Frame} {meth : Method} {c : Code} {b L : Nat} {xs : Nat → Int32} {cn sn pc i idx k n : Nat} {lv lv' : List (Nat × Value)} {st rest As : List zV} {Sh Sh1 : List zS} {μ μ1 : zM} {mc : zD} {w : Option zV}
theorem lback {a : Array Value} {H : Heap} {locs : List Loc} {ls : Array Slot} {mcc ms : Nat} {st0 : List Value} (hr : va_Run p l e room_1 s m #[Value.ref b] below meth c H locs cn sn mcc ms (F0 m pc ls st0) (rest.map (zc G)) (zQc G w Sh1 μ1 a) (fun q => G.1 ≤ q)) (hS : va_S (fun q => G.1 ≤ q) s.heap H locs) (hls : lv_has ls 4 lv)
    (kk : LW G p l e s m below meth c b (cn + mcc) (sn + ms) (pc + 3) lv (w.toList ++ rest) Sh1 μ1) : W p l e room_1 s m #[Value.ref b] below meth c H locs cn sn (lw_Z below #[Value.ref b] s) (F0 m pc ls st0) := by
  intro T hT X
  obtain ⟨v, st₀, t, T', L, h0, X', hL, e1, e2, ⟨hv, hw1, hF1, hF2⟩, st⟩ := hr T hT X
  cases (Outcome.returned.inj hv)
  rw [h0] at hF1 hF2
  have hk := kk T'.heap (locs ++ L) ls (by rw [e1]; exact hw1) ⟨Nat.le_trans hS.1 (by rw [e1]; exact hF1), fun q h1 h2 => by rw [e1, hF2 q (Nat.lt_of_lt_of_le h1 hS.1) h2]; exact hS.2.1 q h1 h2, fun q hq => by
      rcases List.mem_append.mp hq with h | h
      · exact hS.2.2 q h
      · exact hL q h⟩ hls T' rfl X'
  obtain ⟨t2, a1, b1⟩ := hk
  refine ⟨t2, st t2 ?_, b1⟩
  have e3 : (w.map (zc G)).toList ++ rest.map (zc G) = (w.toList ++ rest).map (zc G) := by cases w <;> simp
  rw [e3]
  exact a1
theorem LW.cV (K : LC G p s m meth c b L xs) (hd : decode code pc = .ok (.invokevirtual idx, 3)) (hl : Cond.methodLink "TaleHolesLaw" idx mc.1 ∈ wz) (hm : zOKi mc n) (hn : As.length = n) (ho : zcn mc.2.2.2.2.2 = mc.1.cls) (hb : (zrmb md_law mc && zrm0 mc) = true) (hcn : cn ≤ 600000 ∧ sn ≤ 7302250) (hr : zob Sh k mc.2.2.2.2.2 fun _ => True) (hD : Dz mc (zr k :: As) Sh μ w Sh1 μ1) (hst : st = As.reverse ++ zr k :: rest) (hW : Nat.ble rest.length 4 = true)
    (kk : LW G p l e s m below meth c b cn sn (pc + 3) lv (w.toList ++ rest) Sh1 μ1) : LW G p l e s m below meth c b cn sn pc lv st Sh μ := by
  subst hst
  rw [Bool.and_eq_true] at hb
  obtain ⟨hb, h0⟩ := hb
  unfold zrm0 at h0
  rw [Bool.and_eq_true] at h0
  have z1 := Nat.eq_of_beq_eq_true h0.1
  have z2 := Nat.eq_of_beq_eq_true h0.2
  intro H locs ls hw hS hls
  obtain ⟨hx, hcd, hml, hown, hts, hret, hlk, hKK, -⟩ := K.1
  have hb := zrmb_ok hb
  refine lback (mcc := mc.2.2.2.2.1.cells) (ms := mc.2.2.2.2.1.slots) (va_runV (C := mc.1.cls) (b := G.1 + k) (As := As.map (zc G)) (rest := rest.map (zc G)) (n := n) ⟨hx, hcd, hml, hown, hts⟩ (hD l G) ⟨⟨rfl, rfl, hb.1, hb.2, zpay hts hm.1, List.mem_cons_self, hts _ hm.1.1, hts _ hm.1.2.1, hm.1.2.2.1, zparm hm.1, hts _ hl⟩, hts _ hm.2.1, hts _ hm.2.2⟩ ⟨zPc_blind _ _ _ _, ?_, fun U hU hW => ⟨rfl, by rw [hU]; exact hw, hKK.warm hW⟩⟩ rfl (by simpa using hn) hls.1 (by simp [zc]) (lv_room (Nat.le_trans (zcatsum G rest) (by have := Nat.le_of_ble_eq_true hW; omega))) hd (by rw [z1, z2]; exact ⟨hcn.1, hcn.2⟩)) hS hls (by rw [z1, z2]; exact kk)
  have h1 := zrecv hKK hw hr
  rw [ho] at h1
  exact h1
theorem LW.cI (K : LC G p s m meth c b L xs) (hd : decode code pc = .ok (.invokespecial idx, 3)) (hl : Cond.methodLink "TaleHolesLaw" idx mc.1 ∈ wz) (hm : zOKc mc n) (hret0 : mc.2.2.2.1 = none) (hn : As.length = n) (hb : zrmb md_law mc = true) (hcn : cn + mc.2.2.2.2.1.cells ≤ 600000 ∧ sn + mc.2.2.2.2.1.slots ≤ 7302250) (hD : Dz mc (zr k :: As) Sh μ w Sh1 μ1) (hst : st = As.reverse ++ zr k :: rest) (hW : Nat.ble rest.length 4 = true)
    (kk : LW G p l e s m below meth c b (cn + mc.2.2.2.2.1.cells) (sn + mc.2.2.2.2.1.slots) (pc + 3) lv (w.toList ++ rest) Sh1 μ1) : LW G p l e s m below meth c b cn sn pc lv st Sh μ := by
  subst hst
  intro H locs ls hw hS hls
  obtain ⟨hx, hcd, hml, hown, hts, hret, hlk, hKK, -⟩ := K.1
  have hb := zrmb_ok hb
  exact lback (va_runI (bytes := mc.2.1) (maxL := mc.2.2.1) (ws := Cond.code mc.1 mc.2.1 mc.2.2.1 mc.2.2.2.1 :: wz) (b := G.1 + k) (As := As.map (zc G)) (rest := rest.map (zc G)) (n := n) ⟨hx, hcd, hml, hown, hts⟩ (hD l G) ⟨⟨rfl, rfl, hb.1, hb.2, zpay hts hm.1, by rw [hret0]; exact List.mem_cons_self, by rw [← hret0]; exact hts _ hm.1.1, hts _ hm.1.2.1, hm.1.2.2.1, zparm hm.1, hts _ hl⟩, hm.2.2, hts _ hm.2.1⟩ ⟨zPc_blind _ _ _ _, fun U hU hW => ⟨rfl, by rw [hU]; exact hw, hKK.warm hW⟩⟩ rfl (by simpa using hn) hls.1 (by simp [zc]) (lv_room (Nat.le_trans (zcatsum G rest) (by have := Nat.le_of_ble_eq_true hW; omega))) hd hcn) hS hls kk
theorem LW.new (K : LC G p s m meth c b L xs) {ci N Lk : Nat} {fs : List (Option (Option Nat))} (hd : decode code pc = .ok (.new idx, 3)) (hcl : Cond.classLink "TaleHolesLaw" idx (zcn ci) ∈ wz) (hin : Cond.instantiable (zcn ci) N ∈ wz) (hini : Cond.initialized (zcn ci) ∈ wz) (hN : ((vwCl[ci]?).map fun r => r.2.2) = some N) (hfs : zfd ci fs = true) (hL : Sh.length = Lk) (h0 : ∀ z, μ Lk z = 0) (hR : cn + 1 ≤ 600000 ∧ sn + N ≤ 7302250)
    (kk : LW G p l e s m below meth c b (cn + 1) (sn + N) (pc + 3) lv (zr Lk :: st) (Sh ++ [.inl (ci, fs)]) μ) : LW G p l e s m below meth c b cn sn pc lv st Sh μ := by
  subst hL
  intro H locs ls hw hS hls
  obtain ⟨hx, hcd, hml, hown, hts, hret, hlk, hKK, -⟩ := K.1
  obtain ⟨r, hr, hN⟩ := Option.map_eq_some_iff.mp hN
  subst hN
  have hcn : zcn ci = r.1 := by unfold zcn; rw [hr]
  have hKn := hKK.1.1 ci r hr
  refine W.newcK hx hcd hown (hts _ hcl) (hts _ hin) (hts _ hini) rfl hd hR.1 hR.2 (by rw [hcn]; exact hKn.2.1) rfl fun H1 kC hkC e1 z1 o1 => ?_
  obtain ⟨⟨ty, hty⟩, -⟩ := ztys hr
  have key : zWd G (Sh ++ [.inl (ci, fs)]) μ H1 := by
    refine hw.push z1 o1 ⟨r, hr, ?_⟩
    show t_OB (G.1 + Sh.length) _ _ _ H1 (vp_V (zfs G.1 (μ Sh.length) 0 fs))
    have h1 := u_born (o := H.size) ty hts (zlays hr) hKn hkC e1 hty
    rw [hw.1] at h1
    exact h1.to (zfd_ok hr hfs hty G.1 h0)
  rw [hw.1]
  exact kk H1 locs ls key ⟨Nat.le_trans hS.1 (by omega), fun q h1 h2 => (o1 q (Nat.lt_of_lt_of_le h1 hS.1)).trans (hS.2.1 q h1 h2), hS.2.2⟩ hls
theorem LW.dup (K : LC G p s m meth c b L xs) (hd : decode code pc = .ok (.dup, 1)) (kk : LW G p l e s m below meth c b cn sn (pc + 1) lv (zr k :: zr k :: st) Sh μ) : LW G p l e s m below meth c b cn sn pc lv (zr k :: st) Sh μ := by
  intro H locs ls hw hS hls
  exact lv_dup K.1.1 K.1.2.1 hd rfl (kk H locs ls hw hS hls)
theorem LW.astore (K : LC G p s m meth c b L xs) {j : Fin 4} {t : Nat} (hd : decode code pc = .ok (.astore_n j, 1)) (hj : (j : Nat) = t) (hl : (t, Value.ref (G.1 + k)) :: lv.filter (fun q => !(q.1 == t) && !(q.1 + 1 == t && q.2.category == 2)) = lv') (kk : LW G p l e s m below meth c b cn sn (pc + 1) lv' st Sh μ) : LW G p l e s m below meth c b cn sn pc lv (zr k :: st) Sh μ := by
  intro H locs ls hw hS hls
  exact lv_astore_n K.1.1 K.1.2.1 hd hj hls (by rw [← hj]; exact j.isLt) hl (fun ls' hls' => kk H locs ls' hw hS hls')
theorem LW.istore (K : LC G p s m meth c b L xs) {j : Fin 4} {t : Nat} {z : Int} (hd : decode code pc = .ok (.istore_n j, 1)) (hj : (j : Nat) = t) (hl : (t, Value.int (Int32.ofInt z)) :: lv.filter (fun q => !(q.1 == t) && !(q.1 + 1 == t && q.2.category == 2)) = lv') (kk : LW G p l e s m below meth c b cn sn (pc + 1) lv' st Sh μ) : LW G p l e s m below meth c b cn sn pc lv (zi z :: st) Sh μ := by
  intro H locs ls hw hS hls
  exact lv_istore_n K.1.1 K.1.2.1 hd hj hls (by rw [← hj]; exact j.isLt) hl (fun ls' hls' => kk H locs ls' hw hS hls')
theorem LW.iconst (K : LC G p s m meth c b L xs) {z : Int} (hd : decode code pc = .ok (.iconst z, 1)) (kk : LW G p l e s m below meth c b cn sn (pc + 1) lv (zi z :: st) Sh μ) : LW G p l e s m below meth c b cn sn pc lv st Sh μ := by
  intro H locs ls hw hS hls
  exact lv_iconst K.1.1 K.1.2.1 hd rfl (kk H locs ls hw hS hls)
theorem LW.sub (ks : List Nat) (hl : lv_pick lv ks = lv') (kk : LW G p l e s m below meth c b cn sn pc lv' st Sh μ) : LW G p l e s m below meth c b cn sn pc lv st Sh μ := fun H locs ls hw hS hls => kk H locs ls hw hS (lv_sub hls ks hl)
theorem LW.xo (K : LC G p s m meth c b L xs) (hd : decode code pc = .ok (.aload_n 1, 1)) (kk : LW G p l e s m below meth c b cn sn (pc + 1) (LV G b i) (zr 0 :: st) Sh μ) : LW G p l e s m below meth c b cn sn pc (LV G b i) st Sh μ := by
  intro H locs ls hw hS hls
  exact lv_aload_n K.1.1 K.1.2.1 hd rfl (lv_at hls 1 rfl) (kk H locs ls hw hS hls)
theorem LW.mo (K : LC G p s m meth c b L xs) (hd : decode code pc = .ok (.aload_n 2, 1)) (kk : LW G p l e s m below meth c b cn sn (pc + 1) (LV G b i) (zr 113 :: st) Sh μ) : LW G p l e s m below meth c b cn sn pc (LV G b i) st Sh μ := by
  intro H locs ls hw hS hls
  exact lv_aload_n K.1.1 K.1.2.1 hd rfl (lv_at hls 2 rfl) (kk H locs ls hw hS hls)
theorem zc_of (G : zG) (v : Int32) : zc G (zi v.toInt) = Value.int v := by
  show Value.int (Int32.ofInt v.toInt) = _
  rw [Int32.ofInt_toInt]
/-- script[i + k] -/
theorem LW.arg (K : LC G p s m meth c b L xs) {z : Int} (d0 : decode code pc = .ok (.aload_n 0, 1)) (d1 : decode code (pc + 1) = .ok (.iload_n 3, 1)) (d2 : decode code (pc + 2) = .ok (.iconst z, 1)) (d3 : decode code (pc + 3) = .ok (.iadd, 1)) (d4 : decode code (pc + 4) = .ok (.iaload, 1)) (hz : Int32.ofInt z = nI k) (hk : i + k < L)
    (kk : LW G p l e s m below meth c b cn sn (pc + 5) (LV G b i) (zi (xs (i + k)).toInt :: st) Sh μ) : LW G p l e s m below meth c b cn sn pc (LV G b i) st Sh μ := by
  intro H locs ls hw hS hls
  obtain ⟨hX, hs, hbl, hG, hL⟩ := K
  have hx := hX.1
  have hcd : c.code = code := hX.2.1
  refine lv_aload_n hx hcd d0 rfl (lv_at hls 0 rfl) ?_
  refine lv_iload_n hx hcd d1 rfl (lv_at hls 3 rfl) ?_
  refine lv_iconst hx hcd d2 hz ?_
  refine lv_iadd hx hcd d3 ?_
  rw [nI_add]
  refine va_sld hx hcd hs hbl (by omega) hS (vp_in_nI hk (by omega)) d4 ?_
  rw [nI_clamp (by omega)]
  have h := kk H locs ls hw hS hls
  rw [List.map_cons, zc_of] at h
  exact h
theorem LW.char (K : LC G p s m meth c b L xs) {z : Int} (hd : decode code pc = .ok (.i2c, 1)) (kk : LW G p l e s m below meth c b cn sn (pc + 1) lv (zi (z % 65536) :: st) Sh μ) : LW G p l e s m below meth c b cn sn pc lv (zi z :: st) Sh μ := by
  intro H locs ls hw hS hls
  exact lv_i2c K.1.1 K.1.2.1 hd (zi2c z) (kk H locs ls hw hS hls)
def bz (v : Int32) : Int := if v = 0 then 0 else 1
theorem LW.bool (K : LC G p s m meth c b L xs) {v : Int32} (d0 : decode code pc = .ok (.ifCond .eq 7, 3)) (d1 : decode code (pc + 3) = .ok (.iconst 1, 1)) (d2 : decode code (pc + 4) = .ok (.goto 4, 3)) (d3 : decode code (pc + 7) = .ok (.iconst 0, 1)) (kk : LW G p l e s m below meth c b cn sn (pc + 8) lv (zi (bz v) :: st) Sh μ) : LW G p l e s m below meth c b cn sn pc lv (zi v.toInt :: st) Sh μ := by
  intro H locs ls hw hS hls
  have h := kk H locs ls hw hS hls
  have hx := K.1.1
  have hcd : c.code = code := K.1.2.1
  show W p l e room_1 s m #[Value.ref b] below meth c H locs cn sn (lw_Z below #[Value.ref b] s) (F0 m pc ls (zc G (zi v.toInt) :: st.map (zc G)))
  rw [zc_of]
  refine lv_if_eq (tgt := pc + 7) hx hcd d0 (by omega) (fun q => ?_) (fun q => ?_)
  · refine lv_iconst (v := Int32.ofInt 0) hx hcd d3 rfl ?_
    unfold bz at h
    rw [if_pos q] at h
    exact h
  · refine lv_iconst (v := Int32.ofInt 1) hx hcd d1 rfl ?_
    refine lv_goto (tgt := pc + 8) hx hcd d2 (by omega) ?_
    unfold bz at h
    rw [if_neg q] at h
    exact h
theorem LW.same (K : LC G p s m meth c b L xs) {y z : Int} {off : Int} (hd : decode code pc = .ok (.if_icmp .eq off, 3)) (ht : (pc : Int) + off = ((783 : Nat) : Int)) (h : z = y) (kk : LW G p l e s m below meth c b cn sn 783 lv [] Sh μ) : LW G p l e s m below meth c b cn sn pc lv [zi y, zi z] Sh μ := by
  subst h
  intro H locs ls hw hS hls
  exact lv_icmp_eq K.1.1 K.1.2.1 hd ht (fun _ => kk H locs ls hw hS hls) (fun q => absurd rfl q)
theorem LW.next (K : LC G p s m meth c b L xs) (kk : LW G p l e s m below meth c b cn sn 18 (LV G b (i + 5)) [] Sh μ) : LW G p l e s m below meth c b cn sn 783 (LV G b i) [] Sh μ := by
  intro H locs ls hw hS hls
  refine lv_iinc (v := nI (i + 5)) (lv' := [(3, .int (nI (i + 5))), (0, .ref b), (1, .ref (G.1 + 0)), (2, .ref (G.1 + 113))]) K.1.1 K.1.2.1 (show decode code 783 = .ok (.iinc 3 5, 3) by decide +kernel) hls (k := 3) rfl (show nI i + Int32.ofInt 5 = nI (i + 5) from nI_add i 5) (by decide) rfl (fun ls' hls' => ?_)
  refine lv_goto (tgt := 18) K.1.1 K.1.2.1 (show decode code 786 = .ok (.goto (-768), 3) by decide +kernel) (by decide) ?_
  exact kk H locs ls' hw hS (lv_sub hls' [1, 2, 3, 0] rfl)
end LAW
