/-! the law's own rows: the script's cell, the making of the two objects, calls with both -/
def R_law : String := "TaleHolesLaw"
def lw_P (b : Addr) (xs : List Int32) (args : Array Value) (s : State) : Prop := args = #[.ref b] ∧ s.IntsAt b xs ∧ xs.length ≤ 260 ∧ (Jvm.Cond.and given_1 narrow_1).before args s = true
def lw_Q (_ : Array Value) (s : State) (o : Outcome) (t : State) : Prop := o = .returned (some (.int 1)) ∧ Framed s o t [] 600000 7302250
def lw_Z (below : List Frame) (a : Array Value) (s : State) : State → Prop := fun t => ∃ o, t.status = .running ∧ Ended t below o ∧ lw_Q a s o t
/-- the law's own end, with 1 on the stack, nothing written that was there before, its room as the claim has it -/
theorem lw_ret {p : Program} {l : Launch} {e : Env} {s : State} {m : MethodId} {below : List Frame} {meth : Method} {c : Code} {b : Nat} (hx : p.tables.exec = Jvm.exec) (hb : c.code = code) (hr : meth.sig.returnType = ret) (hlocks : meth.locks = false) {pc : Nat} {H : Heap} {ls : Array Slot} (hdg : decode code pc = .ok (.ireturn, 1)) : W p l e room_1 s m #[Value.ref b] below meth c H [] 600000 7302250 (lw_Z below #[Value.ref b] s) (F0 m pc ls [.int 1]) := by
  intro T hT X
  obtain ⟨fs, hret, hrun, hended, hW, hframe⟩ := X.leave (v := some (.int 1)) (hlocks := hlocks) (fun h => by rw [hr] at h; cases h)
  have hmeth' : T.vm.method? m = some meth := X.method'
  refine ⟨T.setFrames fs, ?_, .returned (some (.int 1)), hrun, hended, rfl, ⟨_, rfl⟩, hW, hframe⟩
  jvm_step X.here [X.here.top, hx, hb, hdg, hmeth', hr, ret, narrow_b1]
  (try refine ⟨rfl, ?_⟩); (try refine ⟨rfl, ?_⟩)
  first | (intro acts; rw [hret _ acts rfl rfl rfl]) | rw [hret _ _ rfl rfl rfl]
  exact Steps.refl _
/-- what holds at the law's entry: the machine, the code, the tables' words (any of lw_tbl by 'hts w (by decide +kernel)'), the script of L ints xs at the cell b, what the Statement gives of the start (any of its parts by flat_of_before) -/
def lw_At (p : Program) (s : State) (m : MethodId) (meth : Method) (c : Code) (b L : Nat) (xs : Nat → Int32) : Prop :=
  p.tables.exec = Jvm.exec ∧ c.code = code ∧ meth.sig.returnType = ret ∧ c.maxLocals = 5 ∧ s.vm.findClass R_law = some m.cls ∧ (∀ w ∈ lw_tbl, w.before #[Value.ref b] s = true) ∧ va_X b L xs s s.heap ∧ b < s.heap.size ∧ meth.locks = false ∧ (Jvm.Cond.and given_1 narrow_1).before #[Value.ref b] s = true
/-! 'cell': some int, nothing moved -/
def cPc (b L k : Nat) (xs : Nat → Int32) (H : Heap) : Array Value → State → Prop := fun a U => a = ([Value.ref b, .int (nI k)] : List Value).toArray ∧ U.heap = H ∧ va_X b L xs U H
def cQc (H : Heap) : Array Value → State → Outcome → State → Prop := fun _ _ o t => (∃ v : Int32, o = .returned (some (.int v))) ∧ t.heap = H
theorem cPc_blind (b L k : Nat) (xs : Nat → Int32) (H : Heap) : FrameBlind (cPc b L k xs H) := fun _ U g mk q => ⟨q.1, q.2.1, va_X.moved (u := U) (U := U.calling g mk _) (Vm.Alike.refl U.vm) q.2.2⟩
theorem nI_of_int (i : Nat) : nI i = Int32.ofInt (i : Int) := by
  show Int32.ofNat i = _
  exact (Int32.ofInt_eq_ofNat).symm
theorem cell_met (l : Launch) {b L k : Nat} {xs : Nat → Int32} {H : Heap} (hL : L ≤ 260) (hk : k ≤ 100) (hbl : b < H.size) : Met l md_6_cell.1 (Cond.code md_6_cell.1 md_6_cell.2.1 md_6_cell.2.2.1 md_6_cell.2.2.2.1 :: wz) md_6_cell.2.2.2.2.1 (cPc b L k xs H) (cQc H) 0 0 (fun _ => False) := by
  refine Met.ofW (cc := method_2_code) (maxL := 2) (ret := some .int) (by decide) rfl ?_
  intro p e s m args below meth c s₁ B hml hv
  obtain ⟨rfl, hH, hX⟩ := hv
  have hts := atoms_spec (ws := Cond.code md_6_cell.1 md_6_cell.2.1 md_6_cell.2.2.1 md_6_cell.2.2.2.1 :: wz) B.pre
  have hown : s.vm.findClass "TaleHolesLaw" = some m.cls := findClass_of_methodNamed B.named
  have hx := B.exec
  have hcd : c.code = method_2_code := B.bytes
  have hret : meth.sig.returnType = some .int := B.returns
  have hlk := B.notSynchronized
  rw [lg_entry_eq]
  have hl : lv_has _ 2 [(0, Value.ref b), (1, Value.int (nI k))] := lv_entry ([Value.ref b, .int (nI k)]) (n := 2) (Nat.le_of_ble_eq_true rfl)
  generalize (lg_sl ([Value.ref b, .int (nI k)]) ++ List.replicate (2 - (lg_sl ([Value.ref b, .int (nI k)])).length) Slot.unset).toArray = ls at hl ⊢
  rw [← hH] at hX hbl
  have hS : va_S (fun _ => False) s.heap s.heap [] := va_S.rf
  refine lv_iload_n hx hcd (show decode method_2_code 0 = .ok (.iload_n 1, 1) by decide +kernel) rfl (lv_at hl 1 rfl) ?_
  refine lv_aload_n hx hcd (show decode method_2_code 1 = .ok (.aload_n 0, 1) by decide +kernel) rfl (lv_at hl 0 rfl) ?_
  refine va_slen hx hcd hX hbl (fun h => h) hS (show decode method_2_code 2 = .ok (.arraylength, 1) by decide +kernel) ?_
  refine lv_icmp_ge (tgt := 12) hx hcd (show decode method_2_code 3 = .ok (.if_icmp .ge 9, 3) by decide +kernel) (by decide) (fun q => ?_) (fun q => ?_)
  · refine lv_ldc (own := "TaleHolesLaw") (index := 7) (v := Int32.ofInt 2144592325) hx hcd hown (hts _ (List.mem_cons_of_mem _ zw_172)) (show decode method_2_code 12 = .ok (.ldc 7, 2) by decide +kernel) ?_
    refine lv_iload_n hx hcd (show decode method_2_code 14 = .ok (.iload_n 1, 1) by decide +kernel) rfl (lv_at hl 1 rfl) ?_
    refine lv_sipush (v := Int32.ofInt 1427) hx hcd (show decode method_2_code 15 = .ok (.sipush 1427, 3) by decide +kernel) (by decide) ?_
    refine lv_iadd hx hcd (show decode method_2_code 18 = .ok (.iadd, 1) by decide +kernel) ?_
    refine lv_imul hx hcd (show decode method_2_code 19 = .ok (.imul, 1) by decide +kernel) ?_
    exact W.iret hx hcd hret (fun t ht _ => ⟨⟨_, rfl⟩, by rw [ht, hH]⟩) hS.2.2 (show decode method_2_code 20 = .ok (.ireturn, 1) by decide +kernel) hlk
  · have hkL : k < L := by
      rw [show Int32.ofNat L = nI L from rfl, nI_of_int, nI_of_int, zle (by omega) (by omega)] at q
      omega
    refine lv_aload_n hx hcd (show decode method_2_code 6 = .ok (.aload_n 0, 1) by decide +kernel) rfl (lv_at hl 0 rfl) ?_
    refine lv_iload_n hx hcd (show decode method_2_code 7 = .ok (.iload_n 1, 1) by decide +kernel) rfl (lv_at hl 1 rfl) ?_
    refine va_sld hx hcd hX hbl (fun h => h) hS (vp_in_nI hkL (by omega)) (show decode method_2_code 8 = .ok (.iaload, 1) by decide +kernel) ?_
    refine lv_goto (tgt := 20) hx hcd (show decode method_2_code 9 = .ok (.goto 11, 3) by decide +kernel) (by decide) ?_
    exact W.iret hx hcd hret (fun t ht _ => ⟨⟨_, rfl⟩, by rw [ht, hH]⟩) hS.2.2 (show decode method_2_code 20 = .ok (.ireturn, 1) by decide +kernel) hlk
/-! rows of the law's body: the world from the cell G.1 on, J: what else holds of the heap -/
def LX (s : State) (b L : Nat) (xs : Nat → Int32) : Prop := va_X b L xs s s.heap ∧ b < s.heap.size ∧ L ≤ 260
def LC (G : zG) (p : Program) (s : State) (m : MethodId) (meth : Method) (c : Code) (b : Nat) : Prop := zX md_law G p s m #[Value.ref b] meth c ∧ s.heap.size ≤ G.1
def LJ (J : Heap → Prop) (G : zG) : Prop := ∀ H H1 : Heap, (∀ q : Nat, q < G.1 → q < H.size → H1[q]? = H[q]?) → J H → J H1
def LW (J : Heap → Prop) (G : zG) (p : Program) (l : Launch) (e : Env) (s : State) (m : MethodId) (below : List Frame) (meth : Method) (c : Code) (b : Nat) (cn sn pc : Nat) (lv : List (Nat × Value)) (st : List Value) (Sh : List zS) (μ : zM) : Prop :=
  ∀ (H : Heap) (locs : List Loc) (ls : Array Slot), J H → zWd G Sh μ H → va_S (fun q => s.heap.size ≤ q) s.heap H locs → lv_has ls 5 lv → W p l e room_1 s m #[Value.ref b] below meth c H locs cn sn (lw_Z below #[Value.ref b] s) (F0 m pc ls st)
section LAW
variable {J : Heap → Prop} {G : zG} {p : Program} {l : Launch} {e : Env} {s : State} {m : MethodId} {below : List Frame} {meth : Method} {c : Code} {b L : Nat} {xs : Nat → Int32} {cn sn pc idx k n : Nat} {lv lv' : List (Nat × Value)} {st : List Value} {rest As : List zV} {Sh Sh1 : List zS} {μ μ1 : zM} {mc : zD} {w : Option zV}
theorem lback {a : Array Value} {H : Heap} {locs : List Loc} {ls : Array Slot} {mcc ms : Nat} {st0 rs : List Value} (hJ : LJ J G) (hG : s.heap.size ≤ G.1) (hr : va_Run p l e room_1 s m #[Value.ref b] below meth c H locs cn sn mcc ms (F0 m pc ls st0) rs (zQc G w Sh1 μ1 a) (zfr G)) (hj : J H) (hS : va_S (fun q => s.heap.size ≤ q) s.heap H locs) (hls : lv_has ls 5 lv)
    (kk : LW J G p l e s m below meth c b (cn + mcc) (sn + ms) (pc + 3) lv ((w.map (zc G)).toList ++ rs) Sh1 μ1) : W p l e room_1 s m #[Value.ref b] below meth c H locs cn sn (lw_Z below #[Value.ref b] s) (F0 m pc ls st0) := by
  intro T hT X
  obtain ⟨v, st₀, t, T', L, h0, X', hL, e1, e2, ⟨hv, hw1, hF1, hF2⟩, st⟩ := hr T hT X
  cases (Outcome.returned.inj hv)
  rw [h0] at hF1 hF2
  have hk := kk T'.heap (locs ++ L) ls (by rw [e1]; exact hJ _ _ (fun q h1 h2 => hF2 q h2 (fun h => absurd h.1 (Nat.not_le_of_lt h1))) hj) (by rw [e1]; exact hw1) ⟨Nat.le_trans hS.1 (by rw [e1]; exact hF1), fun q h1 h2 => by rw [e1, hF2 q (Nat.lt_of_lt_of_le h1 hS.1) (fun h => h2 (Nat.le_trans hG h.1))]; exact hS.2.1 q h1 h2, fun q hq => by
      rcases List.mem_append.mp hq with h | h
      · exact hS.2.2 q h
      · exact Nat.le_trans hG (hL q h).1⟩ hls T' rfl X'
  obtain ⟨t2, a1, b1⟩ := hk
  exact ⟨t2, st t2 a1, b1⟩
theorem LW.cS (hJ : LJ J G) (K : LC G p s m meth c b) (hd : decode code pc = .ok (.invokestatic idx, 3)) (hl : Cond.methodLink "TaleHolesLaw" idx mc.1 ∈ wz) (hm : zOKs mc n) (hn : As.length = n) (hb : (zrmb md_law mc && zrm0 mc) = true) (hcn : cn ≤ 600000 ∧ sn ≤ 7302250) (hD : Dz mc As Sh μ w Sh1 μ1) (hst : (As.reverse ++ rest).map (zc G) = st) (hW : Nat.ble rest.length 4 = true)
    (kk : LW J G p l e s m below meth c b cn sn (pc + 3) lv ((w.map (zc G)).toList ++ rest.map (zc G)) Sh1 μ1) : LW J G p l e s m below meth c b cn sn pc lv st Sh μ := by
  subst hst
  rw [Bool.and_eq_true] at hb
  obtain ⟨hb, h0⟩ := hb
  unfold zrm0 at h0
  rw [Bool.and_eq_true] at h0
  have z1 := Nat.eq_of_beq_eq_true h0.1
  have z2 := Nat.eq_of_beq_eq_true h0.2
  intro H locs ls hj hw hS hls
  obtain ⟨⟨hx, hcd, hml, hown, hts, hret, hlk, hKK, -⟩, hG⟩ := K
  have hb := zrmb_ok hb
  exact lback (mcc := mc.2.2.2.2.1.cells) (ms := mc.2.2.2.2.1.slots) hJ hG (va_runS (As := As.map (zc G)) (rest := rest.map (zc G)) (n := n) ⟨hx, hcd, hml, hown, hts⟩ (hD l G (fun h => absurd h hm.2.2)) ⟨⟨rfl, rfl, hb.1, hb.2, zpay hts hm.1, List.mem_cons_self, hts _ hm.1.1, hts _ hm.1.2.1, hm.1.2.2.1, zparm hm.1, hts _ hl⟩, hts _ hm.2.1⟩ ⟨zPc_blind _ _ _ _, fun U hU hW => ⟨rfl, by rw [hU]; exact hw, hKK.warm hW⟩⟩ rfl (by simpa using hn) hls.1 (by simp) (lv_room (Nat.le_trans (zcatsum G rest) (by have := Nat.le_of_ble_eq_true hW; omega))) hd (by rw [z1, z2]; exact ⟨hcn.1, hcn.2⟩)) hj hS hls (by rw [z1, z2]; exact kk)
theorem LW.cI (hJ : LJ J G) (K : LC G p s m meth c b) (he : zE G = 0) (hd : decode code pc = .ok (.invokespecial idx, 3)) (hl : Cond.methodLink "TaleHolesLaw" idx mc.1 ∈ wz) (hm : zOKc mc n) (hret0 : mc.2.2.2.1 = none) (hn : As.length = n) (hb : zrmb md_law mc = true) (hcn : cn + mc.2.2.2.2.1.cells ≤ 600000 ∧ sn + mc.2.2.2.2.1.slots ≤ 7302250) (hD : Dz mc (zr k :: As) Sh μ w Sh1 μ1) (hst : (As.reverse ++ zr k :: rest).map (zc G) = st) (hW : Nat.ble rest.length 4 = true)
    (kk : LW J G p l e s m below meth c b (cn + mc.2.2.2.2.1.cells) (sn + mc.2.2.2.2.1.slots) (pc + 3) lv ((w.map (zc G)).toList ++ rest.map (zc G)) Sh1 μ1) : LW J G p l e s m below meth c b cn sn pc lv st Sh μ := by
  subst hst
  intro H locs ls hj hw hS hls
  obtain ⟨⟨hx, hcd, hml, hown, hts, hret, hlk, hKK, -⟩, hG⟩ := K
  have hb := zrmb_ok hb
  exact lback hJ hG (va_runI (bytes := mc.2.1) (maxL := mc.2.2.1) (ws := Cond.code mc.1 mc.2.1 mc.2.2.1 mc.2.2.2.1 :: wz) (b := G.1 + k) (As := As.map (zc G)) (rest := rest.map (zc G)) (n := n) ⟨hx, hcd, hml, hown, hts⟩ (hD l G (fun _ => he)) ⟨⟨rfl, rfl, hb.1, hb.2, zpay hts hm.1, by rw [hret0]; exact List.mem_cons_self, by rw [← hret0]; exact hts _ hm.1.1, hts _ hm.1.2.1, hm.1.2.2.1, zparm hm.1, hts _ hl⟩, hm.2.2, hts _ hm.2.1⟩ ⟨zPc_blind _ _ _ _, fun U hU hW => ⟨rfl, by rw [hU]; exact hw, hKK.warm hW⟩⟩ rfl (by simpa using hn) hls.1 (by simp [zc]) (lv_room (Nat.le_trans (zcatsum G rest) (by have := Nat.le_of_ble_eq_true hW; omega))) hd hcn) hj hS hls kk
theorem LW.new (hJ : LJ J G) (K : LC G p s m meth c b) (he : zE G = 0) {ci N Lk : Nat} {fs : List (Option (Option Nat))} (hd : decode code pc = .ok (.new idx, 3)) (hcl : Cond.classLink "TaleHolesLaw" idx (zcn ci) ∈ wz) (hin : Cond.instantiable (zcn ci) N ∈ wz) (hini : Cond.initialized (zcn ci) ∈ wz) (hN : ((vwCl[ci]?).map fun r => r.2.2) = some N) (hfs : zfd ci fs = true) (hL : Sh.length = Lk) (h0 : ∀ z, μ Lk z = 0) (hR : cn + 1 ≤ 600000 ∧ sn + N ≤ 7302250)
    (kk : LW J G p l e s m below meth c b (cn + 1) (sn + N) (pc + 3) lv (zc G (zr Lk) :: st) (Sh ++ [.inl (ci, fs)]) μ) : LW J G p l e s m below meth c b cn sn pc lv st Sh μ := by
  subst hL
  intro H locs ls hj hw hS hls
  obtain ⟨⟨hx, hcd, hml, hown, hts, hret, hlk, hKK, -⟩, hG⟩ := K
  have hsz := hw.sz he
  obtain ⟨r, hr, hN⟩ := Option.map_eq_some_iff.mp hN
  subst hN
  have hcn : zcn ci = r.1 := by unfold zcn; rw [hr]
  have hKn := hKK.1.1 ci r hr
  refine W.newcK hx hcd hown (hts _ hcl) (hts _ hin) (hts _ hini) rfl hd hR.1 hR.2 (by rw [hcn]; exact hKn.2.1) rfl fun H1 kC hkC e1 z1 o1 => ?_
  obtain ⟨⟨ty, hty⟩, -⟩ := ztys hr
  have key : zWd G (Sh ++ [.inl (ci, fs)]) μ H1 := by
    refine hw.push he z1 o1 ⟨r, hr, ?_⟩
    show t_OB (G.1 + Sh.length) _ _ _ H1 (vp_V (zfs G.1 (μ Sh.length) 0 fs))
    have h1 := u_born (o := H.size) ty hts (zlays hr) hKn hkC e1 hty
    rw [hsz] at h1
    exact h1.to (zfd_ok hr hfs hty G.1 h0)
  rw [hsz]
  exact kk H1 locs ls (hJ _ _ (fun q _ h2 => o1 q h2) hj) key ⟨Nat.le_trans hS.1 (by omega), fun q h1 h2 => (o1 q (Nat.lt_of_lt_of_le h1 hS.1)).trans (hS.2.1 q h1 h2), hS.2.2⟩ hls
theorem LW.dup (K : LC G p s m meth c b) (hd : decode code pc = .ok (.dup, 1)) (kk : LW J G p l e s m below meth c b cn sn (pc + 1) lv (zc G (zr k) :: zc G (zr k) :: st) Sh μ) : LW J G p l e s m below meth c b cn sn pc lv (zc G (zr k) :: st) Sh μ := by
  intro H locs ls hj hw hS hls
  exact lv_dup K.1.1 K.1.2.1 hd rfl (kk H locs ls hj hw hS hls)
theorem LW.astore (K : LC G p s m meth c b) {j : Fin 4} {t a : Nat} (hd : decode code pc = .ok (.astore_n j, 1)) (hj : (j : Nat) = t) (hl : (t, Value.ref a) :: lv.filter (fun q => !(q.1 == t) && !(q.1 + 1 == t && q.2.category == 2)) = lv') (kk : LW J G p l e s m below meth c b cn sn (pc + 1) lv' st Sh μ) : LW J G p l e s m below meth c b cn sn pc lv (Value.ref a :: st) Sh μ := by
  intro H locs ls hjj hw hS hls
  exact lv_astore_n K.1.1 K.1.2.1 hd hj hls (by rw [← hj]; exact Nat.lt_succ_of_lt j.isLt) hl (fun ls' hls' => kk H locs ls' hjj hw hS hls')
/-- cell(script, k), with the script and k on the stack -/
theorem LW.cell (K : LC G p s m meth c b) (SX : LX s b L xs) (hk : k ≤ 100) (hd : decode code pc = .ok (.invokestatic 108, 3)) (hcn : cn ≤ 600000 ∧ sn ≤ 7302250) (hst : rest.map (zc G) = st) (hW : Nat.ble rest.length 4 = true)
    (kk : ∀ z : Int, LW J G p l e s m below meth c b cn sn (pc + 3) lv (zc G (zi z) :: st) Sh μ) : LW J G p l e s m below meth c b cn sn pc lv (Value.int (nI k) :: Value.ref b :: st) Sh μ := by
  subst hst
  intro H locs ls hj hw hS hls
  obtain ⟨⟨hx, hcd, hml, hown, hts, hret, hlk, hKK, -⟩, hG⟩ := K
  obtain ⟨hXs, hbl, hL⟩ := SX
  have hm := ok_6_cell
  have hb : zrmb md_law md_6_cell = true := rfl
  have hb := zrmb_ok hb
  have hq : H[b]? = s.heap[b]? := hS.2.1 b hbl (Nat.not_le_of_lt hbl)
  have hr : va_Run p l e room_1 s m #[Value.ref b] below meth c H locs cn sn 0 0 (F0 m pc ls (Value.int (nI k) :: Value.ref b :: rest.map (zc G))) (rest.map (zc G)) (cQc H ([Value.ref b, .int (nI k)] : List Value).toArray) (fun _ => False) :=
    va_runS (As := [Value.ref b, .int (nI k)]) (rest := rest.map (zc G)) (n := 2) ⟨hx, hcd, hml, hown, hts⟩ (cell_met l (H := H) (xs := xs) (b := b) (k := k) hL hk (Nat.lt_of_lt_of_le hbl hS.1)) ⟨⟨rfl, rfl, hb.1, hb.2, zpay hts hm.1, List.mem_cons_self, hts _ hm.1.1, hts _ hm.1.2.1, hm.1.2.2.1, zparm hm.1, hts _ zw_169⟩, hts _ hm.2.1⟩ ⟨cPc_blind _ _ _ _ _, fun U hU hW => ⟨rfl, hU, va_X.moved hW.alike (hXs.kept hq)⟩⟩ rfl rfl hls.1 rfl (lv_room (Nat.le_trans (zcatsum G rest) (by have := Nat.le_of_ble_eq_true hW; omega))) hd hcn
  intro T hT X
  obtain ⟨v, st₀, t, T', L', h0, X', hL', e1, e2, ⟨⟨z, hv⟩, hh⟩, st⟩ := hr T hT X
  cases (Outcome.returned.inj hv)
  have hk := kk z.toInt H (locs ++ L') ls hj hw ⟨hS.1, hS.2.1, fun q hq => by
      rcases List.mem_append.mp hq with h | h
      · exact hS.2.2 q h
      · exact (hL' q h).elim⟩ hls T' (e1.trans hh) X'
  obtain ⟨t2, a1, b1⟩ := hk
  refine ⟨t2, st t2 ?_, b1⟩
  have e3 : zc G (zi z.toInt) = Value.int z := by
    show Value.int (Int32.ofInt z.toInt) = _
    rw [Int32.ofInt_toInt]
  rw [e3] at a1
  exact a1
end LAW
