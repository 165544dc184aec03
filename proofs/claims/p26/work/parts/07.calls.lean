theorem zrm0_ok {md mc : zD} {cn sn : Nat} (h : (zrmb md mc && zrm0 mc) = true) (hc : (Nat.ble cn md.2.2.2.2.1.cells && Nat.ble sn md.2.2.2.2.1.slots) = true) : zrmb md mc = true ∧ mc.2.2.2.2.1.cells = 0 ∧ mc.2.2.2.2.1.slots = 0 ∧ cn ≤ md.2.2.2.2.1.cells ∧ sn ≤ md.2.2.2.2.1.slots := by
  rw [Bool.and_eq_true] at h hc
  have h2 := h.2
  unfold zrm0 at h2
  rw [Bool.and_eq_true] at h2
  exact ⟨h.1, Nat.eq_of_beq_eq_true h2.1, Nat.eq_of_beq_eq_true h2.2, Nat.le_of_ble_eq_true hc.1, Nat.le_of_ble_eq_true hc.2⟩
section ZD0
variable {md : zD} {C : zG → Array Value → State → Prop} {F : zG → List Frame → Array Value → State → State → Prop} {cn sn pc : Nat} {lv : zL} {st : List zV} {Sh Sh1 : List zS} {μ μ1 : zM} {mc : zD} {idx k n : Nat} {As rest : List zV} {w : Option zV}
theorem Az.cV (hd : decode md.2.1 pc = .ok (.invokevirtual idx, 3)) (hl : Cond.methodLink (zcn md.2.2.2.2.2) idx mc.1 ∈ wz) (hm : zOKi mc n) (hn : As.length = n) (ho : zcn mc.2.2.2.2.2 = mc.1.cls) (hb : (zrmb md mc && zrm0 mc) = true) (hr : zob Sh k mc.2.2.2.2.2 fun _ => True) (hD : Dz mc (zr k :: As) Sh μ w Sh1 μ1) (hst : st = As.reverse ++ zr k :: rest) (hW : Nat.ble rest.length 4 = true)
    (kk : Az md C F cn sn (pc + 3) lv (w.toList ++ rest) Sh1 μ1) (hc : (Nat.ble cn md.2.2.2.2.1.cells && Nat.ble sn md.2.2.2.2.1.slots) = true := by rfl) : Az md C F cn sn pc lv st Sh μ := by
  obtain ⟨hb, h1, h2, hc1, hc2⟩ := zrm0_ok hb hc
  exact Az.cVg hd hl hm hn ho hb (by rw [h1, h2]; exact ⟨hc1, hc2⟩) hr hD hst hW (by rw [h1, h2]; exact kk)
theorem Az.cVN {host : String} (hd : decode md.2.1 pc = .ok (.invokevirtual idx, 3)) (hl : Cond.methodLinkNest (zcn md.2.2.2.2.2) idx mc.1 host ∈ wn) (hm : zOKi mc n) (hn : As.length = n) (ho : zcn mc.2.2.2.2.2 = mc.1.cls) (hb : (zrmb md mc && zrm0 mc) = true) (hr : zob Sh k mc.2.2.2.2.2 fun _ => True) (hD : Dz mc (zr k :: As) Sh μ w Sh1 μ1) (hst : st = As.reverse ++ zr k :: rest) (hW : Nat.ble rest.length 4 = true)
    (kk : Az md C F cn sn (pc + 3) lv (w.toList ++ rest) Sh1 μ1) (hc : (Nat.ble cn md.2.2.2.2.1.cells && Nat.ble sn md.2.2.2.2.1.slots) = true := by rfl) : Az md C F cn sn pc lv st Sh μ := by
  obtain ⟨hb, h1, h2, hc1, hc2⟩ := zrm0_ok hb hc
  exact Az.cVNg hd hl hm hn ho hb (by rw [h1, h2]; exact ⟨hc1, hc2⟩) hr hD hst hW (by rw [h1, h2]; exact kk)
theorem Az.cS (hd : decode md.2.1 pc = .ok (.invokestatic idx, 3)) (hl : Cond.methodLink (zcn md.2.2.2.2.2) idx mc.1 ∈ wz) (hm : zOKs mc n) (hn : As.length = n) (hb : (zrmb md mc && zrm0 mc) = true) (hD : Dz mc As Sh μ w Sh1 μ1) (hst : st = As.reverse ++ rest) (hW : Nat.ble rest.length 4 = true)
    (kk : Az md C F cn sn (pc + 3) lv (w.toList ++ rest) Sh1 μ1) (hc : (Nat.ble cn md.2.2.2.2.1.cells && Nat.ble sn md.2.2.2.2.1.slots) = true := by rfl) : Az md C F cn sn pc lv st Sh μ := by
  obtain ⟨hb, h1, h2, hc1, hc2⟩ := zrm0_ok hb hc
  exact Az.cSg hd hl hm hn hb (by rw [h1, h2]; exact ⟨hc1, hc2⟩) hD hst hW (by rw [h1, h2]; exact kk)
theorem Az.cSN {host : String} (hd : decode md.2.1 pc = .ok (.invokestatic idx, 3)) (hl : Cond.methodLinkNest (zcn md.2.2.2.2.2) idx mc.1 host ∈ wn) (hm : zOKs mc n) (hn : As.length = n) (hb : (zrmb md mc && zrm0 mc) = true) (hD : Dz mc As Sh μ w Sh1 μ1) (hst : st = As.reverse ++ rest) (hW : Nat.ble rest.length 4 = true)
    (kk : Az md C F cn sn (pc + 3) lv (w.toList ++ rest) Sh1 μ1) (hc : (Nat.ble cn md.2.2.2.2.1.cells && Nat.ble sn md.2.2.2.2.1.slots) = true := by rfl) : Az md C F cn sn pc lv st Sh μ := by
  obtain ⟨hb, h1, h2, hc1, hc2⟩ := zrm0_ok hb hc
  exact Az.cSNg hd hl hm hn hb (by rw [h1, h2]; exact ⟨hc1, hc2⟩) hD hst hW (by rw [h1, h2]; exact kk)
theorem zcatz (G : zG) : ∀ rest : List zV, (((rest.map (zc G)).map fun v => v.category).sum) = zsz rest
  | [] => rfl
  | v :: vs => by
    have ih := zcatz G vs
    simp only [List.map_cons, List.sum_cons]
    rw [ih, zc_cat]
    cases h : zcat v <;> simp [zsz, h]
theorem zmx {a b : Int} (ha : zR a) (hb : zR b) : (if Int32.ofInt a < Int32.ofInt b then Int32.ofInt b else Int32.ofInt a) = Int32.ofInt (if a < b then b else a) := by
  by_cases h : a < b
  · rw [if_pos h, if_pos ((zlt ha hb).mpr h)]
  · rw [if_neg h, if_neg (fun q => h ((zlt ha hb).mp q))]
theorem zmn {a b : Int} (ha : zR a) (hb : zR b) : (if Int32.ofInt b < Int32.ofInt a then Int32.ofInt b else Int32.ofInt a) = Int32.ofInt (if b < a then b else a) := by
  by_cases h : b < a
  · rw [if_pos h, if_pos ((zlt hb ha).mpr h)]
  · rw [if_neg h, if_neg (fun q => h ((zlt hb ha).mp q))]
theorem Az.mmax {a b : Int} (hd : decode md.2.1 pc = .ok (.invokestatic idx, 3)) (hl : Cond.methodLink (zcn md.2.2.2.2.2) idx Lib.Math.max.name ∈ wz) (hst : st = zi b :: zi a :: rest) (ha : zR a) (hb : zR b) (hR : (Nat.ble 1 md.2.2.2.2.1.frames && Nat.ble (zsz rest + 13) md.2.2.2.2.1.locals) = true)
    (kk : Az md C F cn sn (pc + 3) lv (zi (if a < b then b else a) :: rest) Sh μ) (hc : (Nat.ble cn md.2.2.2.2.1.cells && Nat.ble sn md.2.2.2.2.1.slots) = true := by rfl) : Az md C F cn sn pc lv st Sh μ := by
  subst hst
  rw [Bool.and_eq_true] at hR hc
  intro G p l e s m args below meth c hX hC H locs ls hw hS hls
  have hX' := hX
  obtain ⟨hx, hcd, hml, hown, hts, hret, hlk, hKK, -⟩ := hX'
  refine va_mmax hx hcd (hml.trans hls.1.symm) hown (hts _ hl) (hts _ zy_maxS) (hts _ zy_mathI) (hts _ zy_maxC) (Nat.le_of_ble_eq_true hR.1) (by rw [zcatz]; exact Nat.le_of_ble_eq_true hR.2) (Nat.le_of_ble_eq_true hc.1) (Nat.le_of_ble_eq_true hc.2) hd ?_
  rw [zmx ha hb]
  exact kk G p l e s m args below meth c hX hC H locs ls hw hS hls
theorem Az.mmin {a b : Int} (hd : decode md.2.1 pc = .ok (.invokestatic idx, 3)) (hl : Cond.methodLink (zcn md.2.2.2.2.2) idx Lib.Math.min.name ∈ wz) (hst : st = zi b :: zi a :: rest) (ha : zR a) (hb : zR b) (hR : (Nat.ble 1 md.2.2.2.2.1.frames && Nat.ble (zsz rest + 13) md.2.2.2.2.1.locals) = true)
    (kk : Az md C F cn sn (pc + 3) lv (zi (if b < a then b else a) :: rest) Sh μ) (hc : (Nat.ble cn md.2.2.2.2.1.cells && Nat.ble sn md.2.2.2.2.1.slots) = true := by rfl) : Az md C F cn sn pc lv st Sh μ := by
  subst hst
  rw [Bool.and_eq_true] at hR hc
  intro G p l e s m args below meth c hX hC H locs ls hw hS hls
  have hX' := hX
  obtain ⟨hx, hcd, hml, hown, hts, hret, hlk, hKK, -⟩ := hX'
  refine va_mmin hx hcd (hml.trans hls.1.symm) hown (hts _ hl) (hts _ zy_minS) (hts _ zy_mathI) (hts _ zy_minC) (Nat.le_of_ble_eq_true hR.1) (by rw [zcatz]; exact Nat.le_of_ble_eq_true hR.2) (Nat.le_of_ble_eq_true hc.1) (Nat.le_of_ble_eq_true hc.2) hd ?_
  rw [zmn ha hb]
  exact kk G p l e s m args below meth c hX hC H locs ls hw hS hls
def zcp (μ : zM) (d s : Nat) : zM := fun k => match Nat.beq k d with
  | true => μ s
  | false => μ k
theorem zcp_ne {μ : zM} {d s k : Nat} (h : k ≠ d) : zcp μ d s k = μ k := by
  have e : Nat.beq k d = false := by
    cases h2 : Nat.beq k d with
    | false => rfl
    | true => exact absurd (Nat.eq_of_beq_eq_true h2) h
  simp [zcp, e]
theorem zcp_eq {μ : zM} {d s : Nat} : zcp μ d s d = μ s := by simp [zcp, Nat.beq_refl]
/-- a whole int array into another of its length -/
theorem Az.copy {ks kd len : Nat} {nn : Int} (hd : decode md.2.1 pc = .ok (.invokestatic idx, 3)) (hl : Cond.methodLink (zcn md.2.2.2.2.2) idx arraycopyName ∈ wz) (hst : st = [zi nn, zi 0, zr kd, zi 0, zr ks]) (hs : Sh[ks]? = some (.inr (0, len))) (hdd : Sh[kd]? = some (.inr (0, len))) (hn : nn = (len : Int)) (hlen : len ≤ 100000) (hR : (Nat.ble 1 md.2.2.2.2.1.frames && Nat.ble 18 md.2.2.2.2.1.locals) = true)
    (kk : Az md C F cn sn (pc + 3) lv [] Sh (zcp μ kd ks)) : Az md C F cn sn pc lv st Sh μ := by
  subst hst; subst hn
  rw [Bool.and_eq_true] at hR
  intro G p l e s m args below meth c hX hC H locs ls hw hS hls
  have hX' := hX
  obtain ⟨hx, hcd, hml, hown, hts, hret, hlk, hKK, -⟩ := hX'
  have hc0 : H[G.1 + ks]? = some (vp_cell (G.2.2 0) (len, .inl fun j => Int32.ofInt (μ ks j))) := hw.one hs 0 _ rfl
  have hc1 : H[G.1 + kd]? = some (vp_cell (G.2.2 0) (len, .inl fun j => Int32.ofInt (μ kd j))) := hw.one hdd 0 _ rfl
  obtain ⟨-, k0, hk0, cm0, hkk0⟩ := (hKK.1.2 0 _ rfl).1 len (fun j => .int (Int32.ofInt (μ ks j)))
  have e32 : (Int32.ofInt (len : Int)).toInt = (len : Int) := Int32.toInt_ofInt_of_le (by omega) (by omega)
  have ecl : (Int32.ofInt (len : Int)).toNatClampNeg = len := by
    show ((Int32.ofInt (len : Int)).toInt).toNat = len
    rw [e32]; rfl
  have enf : nativeFrameWords "java/lang/System" "arraycopy" 5 = 7 := by decide +kernel
  have hR2 := Nat.le_of_ble_eq_true hR.2
  have kk2 : W p l e md.2.2.2.2.1 s m args below meth c H locs cn sn (F G below args s) (F0 m pc ls (.int (Int32.ofInt (len : Int)) :: .int 0 :: .ref (G.1 + kd) :: .int 0 :: .ref (G.1 + ks) :: [])) := by
    intro T hT X
    obtain ⟨vm', X', step⟩ := X.arraycopy hx hown (hts _ hl) (hts _ zy_copyN) (hts _ zy_copyS) (hts _ zy_sysI) (src := G.1 + ks) (dst := G.1 + kd) (cs := vp_cell (G.2.2 0) (len, .inl fun j => Int32.ofInt (μ ks j))) (cd := vp_cell (G.2.2 0) (len, .inl fun j => Int32.ofInt (μ kd j))) (srcPos := 0) (destPos := 0) (n := Int32.ofInt (len : Int)) (by rw [hT]; exact hc0) (by rw [hT]; exact hc1)
      (fun _ h => by cases h) (fun _ h => by cases h) (fun h => by cases h) (fun h => by cases h) hk0 hk0 hkk0 hkk0 (by simp [refKind]) (by decide) (by decide) (by rw [Int32.lt_iff_toInt_lt, e32, Int32.toInt_zero]; omega)
      (by rw [e32]; show ¬ _ > ((arrV (G.2.2 0) len (fun j => .int (Int32.ofInt (μ ks j)))).slots.size : Int); rw [arrV_size, Int32.toInt_zero]; omega)
      (by rw [e32]; show ¬ _ > ((arrV (G.2.2 0) len (fun j => .int (Int32.ofInt (μ kd j)))).slots.size : Int); rw [arrV_size, Int32.toInt_zero]; omega)
      (fun vm₁ _ i hi => by
        rw [ecl] at hi
        have e : (vp_cell (G.2.2 0) (len, .inl fun j => Int32.ofInt (μ ks j))).slots.getD ((0 : Int32).toNatClampNeg + i) .null = .int (Int32.ofInt (μ ks i)) := by
          show (arrV (G.2.2 0) len (fun j => .int (Int32.ofInt (μ ks j)))).slots.getD _ _ = _
          rw [show (0 : Int32).toNatClampNeg = 0 from rfl, Nat.zero_add, Array.getD_eq_getD_getElem?, arrV_read _ _ hi]
          rfl
        refine ⟨?_, ?_⟩
        · rw [e]; rfl
        · rw [e]; exact trivial)
      (g := F0 m pc ls (.int (Int32.ofInt (len : Int)) :: .int 0 :: .ref (G.1 + kd) :: .int 0 :: .ref (G.1 + ks) :: [])) rfl (by show ls.size = c.maxLocals; rw [hml]; exact hls.1) (rest := []) rfl (by rw [hcd]; exact hd) (Nat.le_of_ble_eq_true hR.1) (by rw [enf]; show 2 * 0 + 0 + (7 + 11) ≤ _; omega)
    have e1 : copied (vp_cell (G.2.2 0) (len, .inl fun j => Int32.ofInt (μ ks j))) (vp_cell (G.2.2 0) (len, .inl fun j => Int32.ofInt (μ kd j))) 0 0 (Int32.ofInt (len : Int)) = vp_cell (G.2.2 0) (len, .inl fun j => Int32.ofInt (μ ks j)) := by
      have h1 := va_copied (fun z => Value.int z) (G.2.2 0) (G.2.2 0) (n0 := len) (n1 := len) (sp := 0) (dp := 0) (n := len) (fun j => Int32.ofInt (μ ks j)) (fun j => Int32.ofInt (μ kd j)) (by omega)
      have h2 : copied (vp_cell (G.2.2 0) (len, .inl fun j => Int32.ofInt (μ ks j))) (vp_cell (G.2.2 0) (len, .inl fun j => Int32.ofInt (μ kd j))) 0 0 (Int32.ofInt (len : Int)) = arrV (G.2.2 0) len (fun j => Value.int (va_cpy (fun j : Nat => Int32.ofInt (μ ks j)) (fun j : Nat => Int32.ofInt (μ kd j)) 0 0 len j)) := by
        rw [← h1]
        unfold copied
        rw [ecl]
        rfl
      rw [h2, vp_cell_i]
      unfold arrV
      congr 1
      apply Array.ext
      · simp
      · intro i g1 g2
        have hi : i < len := by simpa using g1
        simp [va_cpy, hi]
    rw [e1] at X' step
    have hlt : G.1 + kd < H.size := (Array.getElem?_eq_some_iff.mp hc1).1
    have hheap : ((T.setVm vm').setCell (G.1 + kd) (vp_cell (G.2.2 0) (len, .inl fun j => Int32.ofInt (μ ks j)))).heap = H.setIfInBounds (G.1 + kd) (vp_cell (G.2.2 0) (len, .inl fun j => Int32.ofInt (μ ks j))) := by rw [← hT]; rfl
    have oq : ∀ q : Nat, q ≠ G.1 + kd → (H.setIfInBounds (G.1 + kd) (vp_cell (G.2.2 0) (len, .inl fun j => Int32.ofInt (μ ks j))))[q]? = H[q]? := fun q hq => by simp [Array.getElem?_setIfInBounds, Ne.symm hq]
    obtain ⟨t, a1, b1⟩ := kk G p l e s m args below meth c hX hC _ _ ls (hw.upd hdd (by simp) oq (fun k' h => zcp_ne h) (by
      show (H.setIfInBounds _ _)[G.1 + kd]? = some (vp_cell _ (len, .inl fun j => Int32.ofInt (zcp μ kd ks kd j)))
      rw [zcp_eq]
      simp [Array.getElem?_setIfInBounds, hlt])) ⟨by simp; exact hS.1, fun q g1 g2 => by
        rw [oq q (fun e => g2 (by rw [e]; exact hw.fr hdd))]
        exact hS.2.1 q g1 g2, fun q hq => by
        rcases List.mem_append.mp hq with h | h
        · exact hS.2.2 q h
        · obtain ⟨z, -, hz⟩ := List.mem_map.mp h
          rw [← hz]
          exact hw.fr hdd⟩ hls _ hheap X'
    exact ⟨t, step t a1, b1⟩
  exact kk2
end ZD0
