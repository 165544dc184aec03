/-! the abstract machine's blocks are runs of the machine -/
def zX (md : zD) (G : zG) (p : Program) (s : State) (m : MethodId) (args : Array Value) (meth : Method) (c : Code) : Prop :=
  p.tables.exec = Jvm.exec ∧ c.code = md.2.1 ∧ c.maxLocals = md.2.2.1 ∧ s.vm.findClass (zcn md.2.2.2.2.2) = some m.cls ∧ (∀ w ∈ wz, w.before args s = true) ∧ meth.sig.returnType = md.2.2.2.1 ∧ meth.locks = false ∧ zK G s ∧ (md.1.name = "<init>" → meth.name = "<init>") ∧ (md.1.name = "<init>" → zE G = 0)
def zW (md : zD) (G : zG) (p : Program) (l : Launch) (e : Env) (s : State) (m : MethodId) (args : Array Value) (below : List Frame) (meth : Method) (c : Code) (Q : State → Prop) (cn sn pc : Nat) (lv : zL) (st : List zV) (Sh : List zS) (μ : zM) : Prop :=
  ∀ (H : Heap) (locs : List Loc) (ls : Array Slot), zWd G Sh μ H → va_S (zfr G) s.heap H locs → lv_has ls md.2.2.1 (zlm G lv) → W p l e md.2.2.2.2.1 s m args below meth c H locs cn sn Q (F0 m pc ls (st.map (zc G)))
theorem zinj {a b : Int} (ha : zR a) (hb : zR b) : Int32.ofInt a = Int32.ofInt b ↔ a = b := by
  rw [← Int32.toInt_inj, Int32.toInt_ofInt_of_le (by omega) (by omega), Int32.toInt_ofInt_of_le (by omega) (by omega)]
theorem zlt {a b : Int} (ha : zR a) (hb : zR b) : Int32.ofInt a < Int32.ofInt b ↔ a < b := by
  rw [Int32.lt_iff_toInt_lt, Int32.toInt_ofInt_of_le (by omega) (by omega), Int32.toInt_ofInt_of_le (by omega) (by omega)]
theorem zle {a b : Int} (ha : zR a) (hb : zR b) : Int32.ofInt a ≤ Int32.ofInt b ↔ ¬ b < a := by
  rw [Int32.le_iff_toInt_le, Int32.toInt_ofInt_of_le (by omega) (by omega), Int32.toInt_ofInt_of_le (by omega) (by omega)]
  omega
theorem zidx {z : Int} {n : Nat} (h : 0 ≤ z ∧ z < (n : Int)) (hn : n ≤ 100000) : vp_in (Int32.ofInt z) n ∧ ((Int32.ofInt z).toNatClampNeg : Int) = z := by
  have e : (Int32.ofInt z).toInt = z := Int32.toInt_ofInt_of_le (by omega) (by omega)
  have e2 : ((Int32.ofInt z).toNatClampNeg : Int) = z := by
    show (((Int32.ofInt z).toInt.toNat : Nat) : Int) = z
    rw [e]
    omega
  refine ⟨?_, e2⟩
  rintro (h1 | h1)
  · rw [Int32.lt_iff_toInt_lt, e, Int32.toInt_zero] at h1
    omega
  · omega
theorem zcdiv {a b : Int} (ha : 0 ≤ a ∧ a ≤ 2147483647) (hb : 0 < b ∧ b ≤ 2147483647) : Int32.ofInt a / Int32.ofInt b = Int32.ofInt (a / b) := by
  have h1 : 0 ≤ a / b := Int.ediv_nonneg ha.1 (by omega)
  have h2 : a / b ≤ a := Int.ediv_le_self _ ha.1
  apply Int32.toInt.inj
  rw [Int32.toInt_div, Int32.toInt_ofInt_of_le (by omega) (by omega), Int32.toInt_ofInt_of_le (by omega) (by omega), Int32.toInt_ofInt_of_le (by omega) (by omega), Int.tdiv_eq_ediv_of_nonneg ha.1]
  rw [Int.bmod_def]
  omega
theorem zcrem {a b : Int} (ha : 0 ≤ a ∧ a ≤ 2147483647) (hb : 0 < b ∧ b ≤ 2147483647) : Int32.ofInt a - Int32.ofInt a / Int32.ofInt b * Int32.ofInt b = Int32.ofInt (a % b) := by
  rw [zcdiv ha hb, ← Int32.ofInt_mul, ← Int32.ofInt_sub]
  congr 1
  have := Int.ediv_mul_add_emod a b
  omega
theorem zi2c (z : Int) : ((Int32.ofInt z).toUInt32 % 65536).toInt32 = Int32.ofInt (z % 65536) := by
  rw [pk_char]
  have e : (Int32.ofInt z).toBitVec.toNat = (z % 4294967296).toNat := by
    show (BitVec.ofInt 32 z).toNat = _
    rw [BitVec.toNat_ofInt]
    rfl
  rw [e]
  show Int32.ofNat _ = _
  rw [← Int32.ofInt_eq_ofNat]
  congr 1
  omega
theorem zblt {a b : Int} (ha : -1099511627776 ≤ a ∧ a ≤ 1099511627776) (hb : -1099511627776 ≤ b ∧ b ≤ 1099511627776) : lg_cmp (Int64.ofInt a) (Int64.ofInt b) = Int32.ofInt (if b < a then 1 else if a = b then 0 else -1) := by
  have e1 : (Int64.ofInt a).toInt = a := Int64.toInt_ofInt_of_le (by omega) (by omega)
  have e2 : (Int64.ofInt b).toInt = b := Int64.toInt_ofInt_of_le (by omega) (by omega)
  unfold lg_cmp
  by_cases h1 : b < a
  · rw [if_pos (by rw [gt_iff_lt, Int64.lt_iff_toInt_lt, e1, e2]; exact h1), if_pos h1]; rfl
  · rw [if_neg (by rw [gt_iff_lt, Int64.lt_iff_toInt_lt, e1, e2]; exact h1), if_neg h1]
    by_cases h2 : a = b
    · rw [if_pos (by rw [h2]), if_pos h2]; rfl
    · rw [if_neg (fun h => h2 (by rw [← e1, ← e2, h])), if_neg h2]; rfl
theorem znchar {v : Int} (h : 0 ≤ v ∧ v < 65536) : narrow .char (.int (Int32.ofInt v)) = .int (Int32.ofInt v) := by
  have e : Int32.ofInt v = nI v.toNat := by
    show _ = Int32.ofNat _
    rw [← Int32.ofInt_eq_ofNat]
    congr 1
    omega
  rw [e]
  exact (pk_charN (by omega)).1
theorem zfs_set (b0 : Nat) (μ : Int → Int) (fs : List (Option (Option Nat))) {b : Nat} (v : Int) (hb : fs[b]? = some none) (j : Nat) :
    updV (vp_V (zfs b0 μ 0 fs)) b (.int (Int32.ofInt v)) j = vp_V (zfs b0 (fun z => if z = (b : Int) then v else μ z) 0 fs) j := by
  show (if j = b then _ else _) = _
  unfold vp_V
  rw [List.getD_eq_getElem?_getD, List.getD_eq_getElem?_getD, zfs_get, zfs_get]
  by_cases h : j = b
  · subst h
    rw [if_pos rfl, hb]
    simp [zfv]
  · rw [if_neg h]
    cases hj : fs[j]? with
    | none => rfl
    | some f =>
      rcases f with _ | f
      · simp only [Option.map_some, Option.getD_some, zfv]
        rw [if_neg (by omega)]
      · rcases f with _ | r <;> rfl
section ZS
variable {md : zD} {G : zG} {p : Program} {l : Launch} {e : Env} {s : State} {m : MethodId} {args : Array Value} {below : List Frame} {meth : Method} {c : Code} {Q : State → Prop} {cn sn : Nat} {Sh : List zS}
/-- a store: the world behind it, from the heap behind it -/
theorem zput_ok (hX : zX md G p s m args meth c) {idx ci b k : Nat} {nest : Bool} (hl : zfl md.2.2.2.2.2 idx = some (ci, b, nest)) (hp : zput ci b = true) {pc : Nat} (hdg : decode md.2.1 pc = .ok (.putfield idx, 3)) {fs : List (Option (Option Nat))} (hk : Sh[k]? = some (.inl (ci, fs))) (hb : fs[b]? = some none) {v : Int} {lv : zL} {t : List zV} {μ : zM}
    (kk : zW md G p l e s m args below meth c Q cn sn (pc + 3) lv t Sh (zup μ k (b : Int) v)) : zW md G p l e s m args below meth c Q cn sn pc lv (zi v :: zr k :: t) Sh μ := by
  obtain ⟨hx, hcd, hml, hown, hts, hr, hlk, hKK, -⟩ := hX
  intro H locs ls hw hS hls
  obtain ⟨r, hc, hbn, hlf, hln⟩ := zfl_ok hl
  dsimp only at hc hbn hlf hln
  unfold zput at hp
  rw [hc] at hp
  dsimp only at hp
  rw [Bool.and_eq_true, Bool.not_eq_true', decide_eq_true_eq] at hp
  obtain ⟨hfin, hdesc⟩ := hp
  have hP := hw.one hk
  have hK := hKK.1
  have hin := zlays hc
  obtain ⟨⟨ty0, hty⟩, hnm⟩ := ztys hc
  have hap := va_apart (own := zcn md.2.2.2.2.2) hts hin ty0 hty hnm hK hc
  obtain ⟨r', h1, cell, q1, q2, q3, q4⟩ := hP 0 _ rfl
  have hrr : r' = r := Option.some.inj (h1.symm.trans hc)
  subst hrr
  obtain ⟨hSl, hfc, kC, hkC, hkind⟩ := hK.1 ci _ hc
  obtain ⟨cf, kf, fi, f, hi, hsl⟩ := hSl b hbn
  have hlay := hts _ (hin _ (u_in_lay hbn))
  unfold u_lay at hlay
  rw [if_neg (by rw [hfin]; decide)] at hlay
  have hst := (u_facts hfc hkC (u_lays hts hin hbn) hi).1
  have h6 : k2_Sd s f (G.2.1.1 ci) (.int (Int32.ofInt v)) := u_store hfc hkC hkind hlay hi hdesc rfl rfl
  have fin : ∀ H' : Heap, H'[G.1 + k]? = some (cell.setSlot f.slot (.int (Int32.ofInt v))) → H'.size = H.size → (∀ q : Nat, q ≠ G.1 + k → H'[q]? = H[q]?) → W p l e md.2.2.2.2.1 s m args below meth c H' (locs ++ [⟨G.1 + k, f.slot⟩]) cn sn Q (F0 m (pc + 3) ls (t.map (zc G))) := by
    intro H' e1 e2 e3
    refine kk H' _ ls (hw.upd hk e2 e3 (fun k' h => zup_ne h) ?_) (hS.put e2 e3 (hw.fr hk)) hls
    rw [hsl] at e1
    refine ⟨r', hc, ?_⟩
    have hob : t_OB (G.1 + k) (G.2.1.1 ci) r'.2.2 (G.2.1.2 ci) H' (updV (vp_V (zfs G.1 (μ k) 0 fs)) b (.int (Int32.ofInt v))) := ⟨_, e1, q2, q3, t_set q4 hap hbn _⟩
    refine hob.to (fun j _ => ?_)
    rw [zup_eq]
    exact zfs_set G.1 (μ k) fs v hb j
  cases nest with
  | false =>
    exact W.putK hx hcd (f := f) ⟨hown, hts _ (hlf rfl), ⟨_, _, _, hi⟩, hst⟩ (by rw [q2]; exact h6) q1 q3 (by rw [hsl]; exact k2_hasslot (q4 b hbn)) rfl rfl hdg fin
  | true =>
    exact va_WputK hx hcd (f := f) hown (va_Nw.use rfl (hKK.2.1 _ (hln rfl))) hi hst (by rw [q2]; exact h6) q1 q3 (by rw [hsl]; exact k2_hasslot (q4 b hbn)) rfl rfl hdg fin
theorem zget_ok (hX : zX md G p s m args meth c) {idx ci b k : Nat} {nest : Bool} (hl : zfl md.2.2.2.2.2 idx = some (ci, b, nest)) {pc : Nat} (hdg : decode md.2.1 pc = .ok (.getfield idx, 3)) {fs : List (Option (Option Nat))} (hk : Sh[k]? = some (.inl (ci, fs))) {f : Option (Option Nat)} (hb : fs[b]? = some f) {v : zV} {lv : zL} {t : List zV} {μ : zM} (hv : zfv G.1 (μ k) b f = zc G v)
    (kk : zW md G p l e s m args below meth c Q cn sn (pc + 3) lv (v :: t) Sh μ) : zW md G p l e s m args below meth c Q cn sn pc lv (zr k :: t) Sh μ := by
  obtain ⟨hx, hcd, hml, hown, hts, hr, hlk, hKK, -⟩ := hX
  intro H locs ls hw hS hls
  obtain ⟨r, hc, hbn, hlf, hln⟩ := zfl_ok hl
  dsimp only at hc hbn hlf hln
  have hv2 : (zfs G.1 (μ k) 0 fs)[b]? = some (zc G v) := by
    rw [zfs_get, hb, ← hv, Nat.zero_add]
    rfl
  cases nest with
  | false => exact va_get hx hcd hts (zlays hc) hown hKK.1 (hw.one hk) 0 rfl hc b hbn (hts _ (hlf rfl)) (fun _ h => h) hv2 hdg (kk H locs ls hw hS hls)
  | true => exact va_getN hx hcd hts (zlays hc) hown hKK.1 (hw.one hk) 0 rfl hc b hbn (va_Nw.use rfl (hKK.2.1 _ (hln rfl))) (fun _ h => h) hv2 hdg (kk H locs ls hw hS hls)
theorem ziald_ok (hX : zX md G p s m args meth c) {pc k n : Nat} (hdg : decode md.2.1 pc = .ok (.iaload, 1)) (hk : Sh[k]? = some (.inr (0, n))) (hn : n ≤ 100000) {z : Int} (hz : 0 ≤ z ∧ z < (n : Int)) {lv : zL} {t : List zV} {μ : zM}
    (kk : zW md G p l e s m args below meth c Q cn sn (pc + 1) lv (zi (μ k z) :: t) Sh μ) : zW md G p l e s m args below meth c Q cn sn pc lv (zi z :: zr k :: t) Sh μ := by
  obtain ⟨hx, hcd, hml, hown, hts, hr, hlk, hKK, -⟩ := hX
  intro H locs ls hw hS hls
  have h1 := zidx hz hn
  have h2 := kk H locs ls hw hS hls
  refine va_iald hx hcd hKK.1 (hw.one hk) 0 0 rfl rfl h1.1 hdg ?_
  rw [h1.2]
  exact h2
theorem zcald_ok (hX : zX md G p s m args meth c) {pc k n : Nat} (hdg : decode md.2.1 pc = .ok (.caload, 1)) (hk : Sh[k]? = some (.inr (1, n))) (hn : n ≤ 100000) {z : Int} (hz : 0 ≤ z ∧ z < (n : Int)) {lv : zL} {t : List zV} {μ : zM}
    (kk : zW md G p l e s m args below meth c Q cn sn (pc + 1) lv (zi (μ k z) :: t) Sh μ) : zW md G p l e s m args below meth c Q cn sn pc lv (zi z :: zr k :: t) Sh μ := by
  obtain ⟨hx, hcd, hml, hown, hts, hr, hlk, hKK, -⟩ := hX
  intro H locs ls hw hS hls
  have h1 := zidx hz hn
  have h2 := kk H locs ls hw hS hls
  refine va_cald hx hcd hKK.1 (hw.one hk) 0 1 rfl rfl h1.1 hdg ?_
  rw [h1.2]
  exact h2
theorem zaald_ok (hX : zX md G p s m args meth c) {pc k n : Nat} (hdg : decode md.2.1 pc = .ok (.aaload, 1)) (hk : Sh[k]? = some (.inr (2, n))) (hn : n ≤ 100000) {z : Int} (hz : 0 ≤ z ∧ z < (n : Int)) {lv : zL} {t : List zV} {μ : zM} (h0 : ¬ μ k z = 0)
    (kk : zW md G p l e s m args below meth c Q cn sn (pc + 1) lv (zr (μ k z).toNat :: t) Sh μ) : zW md G p l e s m args below meth c Q cn sn pc lv (zi z :: zr k :: t) Sh μ := by
  obtain ⟨hx, hcd, hml, hown, hts, hr, hlk, hKK, -⟩ := hX
  intro H locs ls hw hS hls
  have h1 := zidx hz hn
  have h2 := kk H locs ls hw hS hls
  refine va_aldq hx hcd hKK.1 (hw.one hk) 0 2 rfl rfl h1.1 hdg ?_
  rw [h1.2, if_neg h0]
  exact h2
/-- an array behind a store of a whole number -/
theorem zarr_put {k n : Nat} {cA : ClassId} {μ : zM} {z v : Int} (hz : 0 ≤ z ∧ z < (n : Int)) (hn : n ≤ 100000) : (vp_cell cA (n, .inl fun j => Int32.ofInt (μ k j))).setSlot (Int32.ofInt z).toNatClampNeg (.int (Int32.ofInt v)) = vp_cell cA (n, .inl fun j => Int32.ofInt (zup μ k z v k j)) := by
  have h1 := zidx hz hn
  rw [vp_cell_i, vp_cell_i, arrV_store]
  congr 1
  funext q
  rw [zup_eq]
  by_cases hq : q = (Int32.ofInt z).toNatClampNeg
  · have : (q : Int) = z := by rw [hq]; exact h1.2
    simp [updV, hq, h1.2]
  · have : ¬ (q : Int) = z := fun h => hq (by have := h1.2; omega)
    simp [updV, hq, this]
theorem ziast_ok (hX : zX md G p s m args meth c) {pc k n : Nat} (hdg : decode md.2.1 pc = .ok (.iastore, 1)) (hk : Sh[k]? = some (.inr (0, n))) (hn : n ≤ 100000) {z v : Int} (hz : 0 ≤ z ∧ z < (n : Int)) {lv : zL} {t : List zV} {μ : zM}
    (kk : zW md G p l e s m args below meth c Q cn sn (pc + 1) lv t Sh (zup μ k z v)) : zW md G p l e s m args below meth c Q cn sn pc lv (zi v :: zi z :: zr k :: t) Sh μ := by
  obtain ⟨hx, hcd, hml, hown, hts, hr, hlk, hKK, -⟩ := hX
  intro H locs ls hw hS hls
  have h1 := zidx hz hn
  refine W.iast hx hcd (hw.one hk 0 _ rfl) ((hKK.1.2 0 _ rfl).1 n (fun j => .int (Int32.ofInt (μ k j)))) (fun q => by cases q) (by show ¬ (_ < 0 ∨ (arrV _ _ _).slots.size ≤ _); rw [arrV_size]; exact h1.1) rfl rfl hdg fun H1 e z1 oq => ?_
  refine kk H1 _ ls (hw.upd hk z1 oq (fun k' h => zup_ne h) ?_) (hS.put z1 oq (hw.fr hk)) hls
  exact e.trans (congrArg some (zarr_put hz hn))
theorem zcast_ok (hX : zX md G p s m args meth c) {pc k n : Nat} (hdg : decode md.2.1 pc = .ok (.castore, 1)) (hk : Sh[k]? = some (.inr (1, n))) (hn : n ≤ 100000) {z v : Int} (hz : 0 ≤ z ∧ z < (n : Int)) (hv : 0 ≤ v ∧ v < 65536) {lv : zL} {t : List zV} {μ : zM}
    (kk : zW md G p l e s m args below meth c Q cn sn (pc + 1) lv t Sh (zup μ k z v)) : zW md G p l e s m args below meth c Q cn sn pc lv (zi v :: zi z :: zr k :: t) Sh μ := by
  obtain ⟨hx, hcd, hml, hown, hts, hr, hlk, hKK, -⟩ := hX
  intro H locs ls hw hS hls
  have h1 := zidx hz hn
  refine W.cast hx hcd (hw.one hk 0 _ rfl) ((hKK.1.2 1 _ rfl).1 n (fun j => .int (Int32.ofInt (μ k j)))) (fun q => by cases q) (by show ¬ (_ < 0 ∨ (arrV _ _ _).slots.size ≤ _); rw [arrV_size]; exact h1.1) rfl rfl hdg fun H1 e z1 oq => ?_
  refine kk H1 _ ls (hw.upd hk z1 oq (fun k' h => zup_ne h) ?_) (hS.put z1 oq (hw.fr hk)) hls
  rw [znchar hv] at e
  exact e.trans (congrArg some (zarr_put hz hn))
theorem zaast_ok (hX : zX md G p s m args meth c) {pc k n r : Nat} (hdg : decode md.2.1 pc = .ok (.aastore, 1)) (hk : Sh[k]? = some (.inr (2, n))) (hn : n ≤ 100000) {z : Int} (hz : 0 ≤ z ∧ z < (n : Int)) (h0 : ¬ r = 0) {fs : List (Option (Option Nat))} (hr1 : Sh[r]? = some (.inl (1, fs))) {lv : zL} {t : List zV} {μ : zM}
    (kk : zW md G p l e s m args below meth c Q cn sn (pc + 1) lv t Sh (zup μ k z (r : Int))) : zW md G p l e s m args below meth c Q cn sn pc lv (zr r :: zi z :: zr k :: t) Sh μ := by
  obtain ⟨hx, hcd, hml, hown, hts, hr, hlk, hKK, -⟩ := hX
  intro H locs ls hw hS hls
  have h1 := zidx hz hn
  have hK := hKK.1
  obtain ⟨r', hr', cellV, g1, g2, g3, -⟩ := hw.one hr1 0 _ rfl
  have hcls := (hK.1 1 r' hr').2
  cases hr'
  obtain ⟨kA, comp, k1, k2, k3, -⟩ := (hK.2 2 _ rfl).2
  have hcomp : comp = G.2.1.1 1 := Option.some.inj (k3.symm.trans hcls.1)
  subst hcomp
  obtain ⟨kC, hkC, -⟩ := hcls.2
  have h3 : ¬ Int32.ofInt z < 0 := fun h => h1.1 (Or.inl h)
  have h4 : (Int32.ofInt z).toNatClampNeg < n := Nat.not_le.mp fun h => h1.1 (Or.inr h)
  refine W.aast hx hcd (hw.one hk 0 _ rfl) (fun q h => by cases h) (fun h => by cases h) k1 k2 rfl hkC ⟨h3, by show _ < (arrV _ _ _).slots.size; rw [arrV_size]; exact h4⟩ g1 (fun q h => by rw [g3] at h; cases h) (by rw [g2]; exact hkC) (by rw [g2]; exact va_assign hcls) rfl rfl hdg fun H1 e z1 oq => ?_
  refine kk H1 _ ls (hw.upd hk z1 oq (fun k' h => zup_ne h) ?_) (hS.put z1 oq (hw.fr hk)) hls
  refine e.trans (congrArg some ?_)
  show (vp_cell _ _).setSlot _ _ = vp_cell _ _
  rw [vp_cell_q, vp_cell_q, arrV_store]
  congr 1
  funext q
  rw [zup_eq]
  by_cases hq : q = (Int32.ofInt z).toNatClampNeg
  · have : (q : Int) = z := by rw [hq]; exact h1.2
    have h5 : ¬ (r : Int) = 0 := by omega
    simp [updV, hq, h1.2, va_rf, h0]
  · have : ¬ (q : Int) = z := fun h => hq (by have := h1.2; omega)
    simp [updV, hq, this]
theorem zalen_ok (hX : zX md G p s m args meth c) {pc k n t0 : Nat} (hdg : decode md.2.1 pc = .ok (.arraylength, 1)) (hk : Sh[k]? = some (.inr (t0, n))) (ht : t0 < 3) {lv : zL} {t : List zV} {μ : zM}
    (kk : zW md G p l e s m args below meth c Q cn sn (pc + 1) lv (zi (n : Int) :: t) Sh μ) : zW md G p l e s m args below meth c Q cn sn pc lv (zr k :: t) Sh μ := by
  obtain ⟨hx, hcd, hml, hown, hts, hr, hlk, hKK, -⟩ := hX
  intro H locs ls hw hS hls
  have h2 := kk H locs ls hw hS hls
  match t0, ht, hk with
  | 0, _, hk => exact va_alen hx hcd hKK.1 (hw.one hk) 0 0 rfl rfl Int32.ofInt_eq_ofNat.symm hdg h2
  | 1, _, hk => exact va_alen hx hcd hKK.1 (hw.one hk) 0 1 rfl rfl Int32.ofInt_eq_ofNat.symm hdg h2
  | 2, _, hk => exact va_alen hx hcd hKK.1 (hw.one hk) 0 2 rfl rfl Int32.ofInt_eq_ofNat.symm hdg h2
end ZS
