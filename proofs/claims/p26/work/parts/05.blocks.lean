section ZB
variable {md : zD} {G : zG} {p : Program} {l : Launch} {e : Env} {s : State} {m : MethodId} {args : Array Value} {below : List Frame} {meth : Method} {c : Code} {Q : State → Prop} {cn sn : Nat} {Sh : List zS}
theorem zbr_ok {R : Prop} {cd : ClassFile.Cond} {a b : Int} {X N : Prop} (h : zbr cd a b X N) (hX : X → R) (hN : N → R) : R := by
  unfold zbr at h
  split at h
  · exact (Decidable.em (a = b)).elim (fun q => hX (h.1 q)) (fun q => hN (h.2 q))
  · exact (Decidable.em (a = b)).elim (fun q => hN (h.2 q)) (fun q => hX (h.1 q))
  · exact (Decidable.em (a < b)).elim (fun q => hX (h.1 q)) (fun q => hN (h.2 q))
  · exact (Decidable.em (a < b)).elim (fun q => hN (h.2 q)) (fun q => hX (h.1 q))
  · exact (Decidable.em (b < a)).elim (fun q => hX (h.1 q)) (fun q => hN (h.2 q))
  · exact (Decidable.em (b < a)).elim (fun q => hN (h.2 q)) (fun q => hX (h.1 q))
theorem zicmp_ok (hX : zX md G p s m args meth c) {cd : ClassFile.Cond} {o : Int} {pc tg : Nat} (hdg : decode md.2.1 pc = .ok (.if_icmp cd o, 3)) (ht : (pc : Int) + o = (tg : Int)) {a b : Int} (ha : zR a) (hb : zR b) {lv : zL} {t : List zV} {μ : zM}
    (h : zbr cd a b (zW md G p l e s m args below meth c Q cn sn tg lv t Sh μ) (zW md G p l e s m args below meth c Q cn sn (pc + 3) lv t Sh μ)) : zW md G p l e s m args below meth c Q cn sn pc lv (zi b :: zi a :: t) Sh μ := by
  obtain ⟨hx, hcd, -⟩ := hX
  intro H locs ls hw hS hls
  cases cd with
  | eq => exact lv_icmp_eq hx hcd hdg ht (fun q => h.1 ((zinj ha hb).mp q) H locs ls hw hS hls) (fun q => h.2 (fun z => q ((zinj ha hb).mpr z)) H locs ls hw hS hls)
  | ne => exact lv_icmp_ne hx hcd hdg ht (fun q => h.1 (fun z => q ((zinj ha hb).mpr z)) H locs ls hw hS hls) (fun q => h.2 ((zinj ha hb).mp q) H locs ls hw hS hls)
  | lt => exact lv_icmp_lt hx hcd hdg ht (fun q => h.1 ((zlt ha hb).mp q) H locs ls hw hS hls) (fun q => h.2 (fun z => q ((zlt ha hb).mpr z)) H locs ls hw hS hls)
  | ge => exact lv_icmp_ge hx hcd hdg ht (fun q => h.1 ((zle hb ha).mp q) H locs ls hw hS hls) (fun q => h.2 (Decidable.not_not.mp fun z => q ((zle hb ha).mpr z)) H locs ls hw hS hls)
  | gt => exact lv_icmp_gt hx hcd hdg ht (fun q => h.1 ((zlt hb ha).mp q) H locs ls hw hS hls) (fun q => h.2 (fun z => q ((zlt hb ha).mpr z)) H locs ls hw hS hls)
  | le => exact lv_icmp_le hx hcd hdg ht (fun q => h.1 ((zle ha hb).mp q) H locs ls hw hS hls) (fun q => h.2 (Decidable.not_not.mp fun z => q ((zle ha hb).mpr z)) H locs ls hw hS hls)
theorem zcmp0_ok (hX : zX md G p s m args meth c) {cd : ClassFile.Cond} {o : Int} {pc tg : Nat} (hdg : decode md.2.1 pc = .ok (.ifCond cd o, 3)) (ht : (pc : Int) + o = (tg : Int)) {a : Int} (ha : zR a) {lv : zL} {t : List zV} {μ : zM}
    (h : zbr cd a 0 (zW md G p l e s m args below meth c Q cn sn tg lv t Sh μ) (zW md G p l e s m args below meth c Q cn sn (pc + 3) lv t Sh μ)) : zW md G p l e s m args below meth c Q cn sn pc lv (zi a :: t) Sh μ := by
  obtain ⟨hx, hcd, -⟩ := hX
  have hb : zR 0 := by omega
  intro H locs ls hw hS hls
  cases cd with
  | eq => exact lv_if_eq hx hcd hdg ht (fun q => h.1 ((zinj ha hb).mp q) H locs ls hw hS hls) (fun q => h.2 (fun z => q ((zinj ha hb).mpr z)) H locs ls hw hS hls)
  | ne => exact lv_if_ne hx hcd hdg ht (fun q => h.1 (fun z => q ((zinj ha hb).mpr z)) H locs ls hw hS hls) (fun q => h.2 ((zinj ha hb).mp q) H locs ls hw hS hls)
  | lt => exact lv_if_lt hx hcd hdg ht (fun q => h.1 ((zlt ha hb).mp q) H locs ls hw hS hls) (fun q => h.2 (fun z => q ((zlt ha hb).mpr z)) H locs ls hw hS hls)
  | ge => exact lv_if_ge hx hcd hdg ht (fun q => h.1 ((zle hb ha).mp q) H locs ls hw hS hls) (fun q => h.2 (Decidable.not_not.mp fun z => q ((zle hb ha).mpr z)) H locs ls hw hS hls)
  | gt => exact lv_if_gt hx hcd hdg ht (fun q => h.1 ((zlt hb ha).mp q) H locs ls hw hS hls) (fun q => h.2 (fun z => q ((zlt hb ha).mpr z)) H locs ls hw hS hls)
  | le => exact lv_if_le hx hcd hdg ht (fun q => h.1 ((zle ha hb).mp q) H locs ls hw hS hls) (fun q => h.2 (Decidable.not_not.mp fun z => q ((zle ha hb).mpr z)) H locs ls hw hS hls)
theorem zts_ok {X : Nat → Prop} {pc : Nat} {d z : Int} : ∀ (os : List Int) (v : Int), zts X pc d z os v → ((z < v ∨ v + os.length ≤ z) ∧ X ((pc : Int) + d).toNat) ∨ ∃ (j : Nat) (o : Int), z = v + j ∧ os[j]? = some o ∧ X ((pc : Int) + o).toNat
  | [], v, h => Or.inl ⟨by simp only [List.length_nil]; omega, h⟩
  | o :: os, v, h => by
    by_cases e : z = v
    · exact Or.inr ⟨0, o, by omega, rfl, h.1 e⟩
    · rcases zts_ok os (v + 1) (h.2 e) with ⟨h1, h2⟩ | ⟨j, o', h1, h2, h3⟩
      · exact Or.inl ⟨by simp only [List.length_cons]; omega, h2⟩
      · exact Or.inr ⟨j + 1, o', by omega, by simpa using h2, h3⟩
theorem ztsw_ok (hX : zX md G p s m args meth c) {d lo hi : Int} {offs : Array Int} {len pc : Nat} (hdg : decode md.2.1 pc = .ok (.tableswitch d lo hi offs, len)) (hd : 0 ≤ (pc : Int) + d) (ho : ∀ o ∈ offs.toList, 0 ≤ (pc : Int) + o) (hh : hi = lo + (offs.size : Int) - 1) {z : Int} (hz : zR z) {lv : zL} {t : List zV} {μ : zM}
    (h : zts (fun tg => zW md G p l e s m args below meth c Q cn sn tg lv t Sh μ) pc d z offs.toList lo) : zW md G p l e s m args below meth c Q cn sn pc lv (zi z :: t) Sh μ := by
  obtain ⟨hx, hcd, -⟩ := hX
  have e1 : (Int32.ofInt z).toInt = z := Int32.toInt_ofInt_of_le (by omega) (by omega)
  intro H locs ls hw hS hls
  rcases zts_ok _ _ h with ⟨h1, h2⟩ | ⟨j, o, h1, h2, h3⟩
  · refine lv_tableOut hx hcd hdg (tgt := ((pc : Int) + d).toNat) ?_ (by omega) (h2 H locs ls hw hS hls)
    rw [e1]
    simp only [Array.length_toList] at h1
    omega
  · have hj : j < offs.size := by
      have := (List.getElem?_eq_some_iff.mp h2).1
      simpa using this
    have h4 := ho o (List.mem_of_getElem? h2)
    refine lv_tableIn hx hcd hdg (off := o) (tgt := ((pc : Int) + o).toNat) ?_ ?_ ?_ (by omega) (h3 H locs ls hw hS hls)
    · rw [e1]; omega
    · rw [e1]; omega
    · rw [e1, show (z - lo).toNat = j by omega, ← Array.getElem?_toList]
      exact h2
theorem zlsw_ok {X : Nat → Prop} {pc : Nat} {d z : Int} : ∀ (os : List (Int × Int)), zlsw X pc d z os → X ((pc : Int) + Op.lookupswitch.offset os d z).toNat
  | [], h => by
    have e : Op.lookupswitch.offset [] d z = d := by simp [Op.lookupswitch.offset]
    rw [e]; exact h
  | q :: os, h => by
    obtain ⟨k, o⟩ := q
    rw [Op.lookupswitch.offset_cons]
    by_cases e : z = k
    · first
        | (rw [if_pos e.symm]; exact h.1 e)
        | (rw [if_pos e]; exact h.1 e)
    · have h1 := zlsw_ok os (h.2 e)
      first
        | (rw [if_neg (fun w => e w.symm)]; exact h1)
        | (rw [if_neg e]; exact h1)
theorem zoff_in {d z : Int} {P : Int → Prop} (hd : P d) : ∀ (os : List (Int × Int)), (∀ q ∈ os, P q.2) → P (Op.lookupswitch.offset os d z)
  | [], _ => by
    have e : Op.lookupswitch.offset [] d z = d := by simp [Op.lookupswitch.offset]
    rw [e]; exact hd
  | q :: os, h => by
    obtain ⟨k, o⟩ := q
    rw [Op.lookupswitch.offset_cons]
    split
    · exact h (k, o) List.mem_cons_self
    · exact zoff_in hd os fun q hq => h q (List.mem_cons_of_mem _ hq)
theorem zlksw_ok (hX : zX md G p s m args meth c) {d : Int} {ps : Array (Int × Int)} {len pc : Nat} (hdg : decode md.2.1 pc = .ok (.lookupswitch d ps, len)) (hd : 0 ≤ (pc : Int) + d) (ho : ∀ o ∈ ps.toList, 0 ≤ (pc : Int) + o.2) (hs : (ps.toList.zip (ps.toList.drop 1)).all (fun (a, next) => a.1 < next.1) = true) {z : Int} (hz : zR z) {lv : zL} {t : List zV} {μ : zM}
    (h : zlsw (fun tg => zW md G p l e s m args below meth c Q cn sn tg lv t Sh μ) pc d z ps.toList) : zW md G p l e s m args below meth c Q cn sn pc lv (zi z :: t) Sh μ := by
  obtain ⟨hx, hcd, -⟩ := hX
  have e1 : (Int32.ofInt z).toInt = z := Int32.toInt_ofInt_of_le (by omega) (by omega)
  intro H locs ls hw hS hls
  have h1 := zlsw_ok _ h
  have h2 : 0 ≤ (pc : Int) + Op.lookupswitch.offset ps.toList d z := zoff_in (P := fun o => 0 ≤ (pc : Int) + o) hd _ ho
  exact lv_lookup hx hcd hdg hs rfl (tgt := ((pc : Int) + Op.lookupswitch.offset ps.toList d z).toNat) (by rw [e1]; omega) (h1 H locs ls hw hS hls)
theorem zlen_eq {n k : Nat} (h : (n == k) = true) : n = k := by simpa using h
theorem zop_ok (hX : zX md G p s m args meth c) {X N : Nat → zL → List zV → zM → Prop} (hXk : ∀ pc lv st μ, X pc lv st μ → zW md G p l e s m args below meth c Q cn sn pc lv st Sh μ) (q : zI) (pc : Nat) (hN : ∀ lv st μ, N (pc + q.2.1) lv st μ → zW md G p l e s m args below meth c Q cn sn (pc + q.2.1) lv st Sh μ) (hd : zd1 md pc q = true) (lv : zL) (st : List zV) (μ : zM) (h : zop Sh X N q pc lv st μ) :
    zW md G p l e s m args below meth c Q cn sn pc lv st Sh μ := by
  obtain ⟨i, n, a, b⟩ := q
  unfold zd1 at hd
  rw [Bool.and_eq_true, decide_eq_true_eq] at hd
  obtain ⟨hdg, hck⟩ := hd
  have hX' := hX
  obtain ⟨hx, hcd, hml, hown, hts, hr, hlk, hKK, -⟩ := hX'
  dsimp only at hdg
  cases i with
  | aload_n k =>
    obtain ⟨z, e1, h⟩ := zlr_ok h
    cases zlen_eq hck
    intro H locs ls hw hS hls
    exact lv_aload_n hx hcd hdg rfl (zlv_at hls e1) (hN _ _ _ h H locs ls hw hS hls)
  | aload k =>
    obtain ⟨z, e1, h⟩ := zlr_ok h
    cases zlen_eq hck
    intro H locs ls hw hS hls
    exact lv_aload hx hcd hdg (zlv_at hls e1) (hN _ _ _ h H locs ls hw hS hls)
  | iload_n k =>
    obtain ⟨z, e1, h⟩ := zli_ok h
    cases zlen_eq hck
    intro H locs ls hw hS hls
    exact lv_iload_n hx hcd hdg rfl (zlv_at hls e1) (hN _ _ _ h H locs ls hw hS hls)
  | iload k =>
    obtain ⟨z, e1, h⟩ := zli_ok h
    cases zlen_eq hck
    intro H locs ls hw hS hls
    exact lv_iload hx hcd hdg (zlv_at hls e1) (hN _ _ _ h H locs ls hw hS hls)
  | lload_n k =>
    obtain ⟨z, e1, h⟩ := zll_ok h
    cases zlen_eq hck
    intro H locs ls hw hS hls
    exact lv_lload_n hx hcd hdg rfl (zlv_at hls e1) (hN _ _ _ h H locs ls hw hS hls)
  | lload k =>
    obtain ⟨z, e1, h⟩ := zll_ok h
    cases zlen_eq hck
    intro H locs ls hw hS hls
    exact lv_lload hx hcd hdg (zlv_at hls e1) (hN _ _ _ h H locs ls hw hS hls)
  | istore_n k =>
    obtain ⟨z, t, rfl, h⟩ := zpi_ok h
    replace hck := Bool.and_eq_true _ _ ▸ hck
    cases zlen_eq hck.1
    intro H locs ls hw hS hls
    exact lv_istore_n hx hcd hdg rfl hls (of_decide_eq_true hck.2) (congrArg _ (zrm_map G _ lv)) (fun ls' h' => hN _ _ _ h H locs ls' hw hS h')
  | istore k =>
    obtain ⟨z, t, rfl, h⟩ := zpi_ok h
    replace hck := Bool.and_eq_true _ _ ▸ hck
    cases zlen_eq hck.1
    intro H locs ls hw hS hls
    exact lv_istore hx hcd hdg hls (of_decide_eq_true hck.2) (congrArg _ (zrm_map G _ lv)) (fun ls' h' => hN _ _ _ h H locs ls' hw hS h')
  | astore_n k =>
    obtain ⟨z, t, rfl, h⟩ := zpr_ok h
    replace hck := Bool.and_eq_true _ _ ▸ hck
    cases zlen_eq hck.1
    intro H locs ls hw hS hls
    exact lv_astore_n hx hcd hdg rfl hls (of_decide_eq_true hck.2) (congrArg _ (zrm_map G _ lv)) (fun ls' h' => hN _ _ _ h H locs ls' hw hS h')
  | astore k =>
    obtain ⟨z, t, rfl, h⟩ := zpr_ok h
    replace hck := Bool.and_eq_true _ _ ▸ hck
    cases zlen_eq hck.1
    intro H locs ls hw hS hls
    exact lv_astore hx hcd hdg hls (of_decide_eq_true hck.2) (congrArg _ (zrm_map G _ lv)) (fun ls' h' => hN _ _ _ h H locs ls' hw hS h')
  | iinc k w =>
    obtain ⟨z, e1, h⟩ := zli_ok h
    replace hck := Bool.and_eq_true _ _ ▸ hck
    cases zlen_eq hck.1
    intro H locs ls hw hS hls
    obtain ⟨j, hj⟩ := List.getElem?_of_mem (List.mem_map.mpr ⟨_, zlk_mem e1, rfl⟩ : (k, Value.int (Int32.ofInt z)) ∈ zlm G lv)
    exact lv_iinc hx hcd hdg hls hj (Int32.ofInt_add z w).symm (of_decide_eq_true hck.2) (congrArg _ (zrm_map G _ lv)) (fun ls' h' => hN _ _ _ h H locs ls' hw hS h')
  | iconst k =>
    cases zlen_eq hck
    intro H locs ls hw hS hls
    exact lv_iconst hx hcd hdg rfl (hN _ _ _ h H locs ls hw hS hls)
  | bipush k =>
    replace hck := Bool.and_eq_true _ _ ▸ hck
    cases zlen_eq hck.1
    intro H locs ls hw hS hls
    exact lv_bipush hx hcd hdg (of_decide_eq_true hck.2) (hN _ _ _ h H locs ls hw hS hls)
  | sipush k =>
    replace hck := Bool.and_eq_true _ _ ▸ hck
    cases zlen_eq hck.1
    intro H locs ls hw hS hls
    exact lv_sipush hx hcd hdg (of_decide_eq_true hck.2) (hN _ _ _ h H locs ls hw hS hls)
  | lconst k =>
    cases zlen_eq hck
    intro H locs ls hw hS hls
    exact lv_lconst hx hcd hdg Int64.ofInt_eq_ofNat.symm (hN _ _ _ h H locs ls hw hS hls)
  | ldc2_w k =>
    replace hck := Bool.and_eq_true _ _ ▸ hck
    cases zlen_eq hck.1
    intro H locs ls hw hS hls
    exact lv_ldc2 hx hcd hown (hts _ (zlc_ok (of_decide_eq_true hck.2))) hdg (hN _ _ _ h H locs ls hw hS hls)
  | iadd =>
    obtain ⟨z, t, rfl, h⟩ := zpi_ok h
    obtain ⟨z2, t, rfl, h⟩ := zpi_ok h
    cases zlen_eq hck
    intro H locs ls hw hS hls
    refine lv_iadd hx hcd hdg ?_
    rw [← Int32.ofInt_add]
    exact hN _ _ _ h H locs ls hw hS hls
  | isub =>
    obtain ⟨z, t, rfl, h⟩ := zpi_ok h
    obtain ⟨z2, t, rfl, h⟩ := zpi_ok h
    cases zlen_eq hck
    intro H locs ls hw hS hls
    refine lv_isub hx hcd hdg ?_
    rw [← Int32.ofInt_sub]
    exact hN _ _ _ h H locs ls hw hS hls
  | imul =>
    obtain ⟨z, t, rfl, h⟩ := zpi_ok h
    obtain ⟨z2, t, rfl, h⟩ := zpi_ok h
    cases zlen_eq hck
    intro H locs ls hw hS hls
    refine lv_imul hx hcd hdg ?_
    rw [← Int32.ofInt_mul]
    exact hN _ _ _ h H locs ls hw hS hls
  | iand =>
    obtain ⟨z, t, rfl, h⟩ := zpi_ok h
    obtain ⟨z2, t, rfl, h⟩ := zpi_ok h
    cases zlen_eq hck
    intro H locs ls hw hS hls
    refine lv_iand hx hcd hdg ?_
    have h2 := hN _ _ _ h H locs ls hw hS hls
    simp only [List.map_cons, zc, zi, Int32.ofInt_toInt] at h2
    exact h2
  | ior =>
    obtain ⟨z, t, rfl, h⟩ := zpi_ok h
    obtain ⟨z2, t, rfl, h⟩ := zpi_ok h
    cases zlen_eq hck
    intro H locs ls hw hS hls
    refine lv_ior hx hcd hdg ?_
    have h2 := hN _ _ _ h H locs ls hw hS hls
    simp only [List.map_cons, zc, zi, Int32.ofInt_toInt] at h2
    exact h2
  | ixor =>
    obtain ⟨z, t, rfl, h⟩ := zpi_ok h
    obtain ⟨z2, t, rfl, h⟩ := zpi_ok h
    cases zlen_eq hck
    intro H locs ls hw hS hls
    refine lv_ixor hx hcd hdg ?_
    have h2 := hN _ _ _ h H locs ls hw hS hls
    simp only [List.map_cons, zc, zi, Int32.ofInt_toInt] at h2
    exact h2
  | ishr =>
    obtain ⟨z, t, rfl, h⟩ := zpi_ok h
    obtain ⟨z2, t, rfl, h⟩ := zpi_ok h
    cases zlen_eq hck
    intro H locs ls hw hS hls
    refine lv_ishr hx hcd hdg ?_
    have h2 := hN _ _ _ h H locs ls hw hS hls
    simp only [List.map_cons, zc, zi, Int32.ofInt_toInt] at h2
    exact h2
  | ldc k =>
    replace hck := Bool.and_eq_true _ _ ▸ hck
    cases zlen_eq hck.1
    intro H locs ls hw hS hls
    exact lv_ldc hx hcd hown (hts _ (zic_ok (of_decide_eq_true hck.2))) hdg (hN _ _ _ h H locs ls hw hS hls)
  | ishl =>
    obtain ⟨z, t, rfl, h⟩ := zpi_ok h
    obtain ⟨z2, t, rfl, h⟩ := zpi_ok h
    cases zlen_eq hck
    intro H locs ls hw hS hls
    refine lv_ishl hx hcd hdg ?_
    have h2 := hN _ _ _ h H locs ls hw hS hls
    simp only [List.map_cons, zc, zi, Int32.ofInt_toInt] at h2
    exact h2
  | idiv =>
    obtain ⟨z, t, rfl, h⟩ := zpi_ok h
    obtain ⟨z2, t, rfl, h⟩ := zpi_ok h
    obtain ⟨ha, hb, h⟩ := h
    cases zlen_eq hck
    intro H locs ls hw hS hls
    refine lv_idiv hx hcd hdg (fun q => ?_) ?_
    · have := (zinj (a := z) (b := 0) (by omega) (by omega)).mp q
      omega
    · rw [zcdiv ha hb]
      exact hN _ _ _ h H locs ls hw hS hls
  | irem =>
    obtain ⟨z, t, rfl, h⟩ := zpi_ok h
    obtain ⟨z2, t, rfl, h⟩ := zpi_ok h
    obtain ⟨ha, hb, h⟩ := h
    cases zlen_eq hck
    intro H locs ls hw hS hls
    refine lv_irem hx hcd hdg (fun q => ?_) ?_
    · have := (zinj (a := z) (b := 0) (by omega) (by omega)).mp q
      omega
    · rw [zcrem ha hb]
      exact hN _ _ _ h H locs ls hw hS hls
  | i2l =>
    obtain ⟨z, t, rfl, hz, h⟩ := zpi_ok h
    cases zlen_eq hck
    intro H locs ls hw hS hls
    exact lv_i2l hx hcd hdg (Int32.toInt64_ofInt (by rw [show Int32.minValue.toInt = -2147483648 from rfl]; omega) (by rw [show Int32.maxValue.toInt = 2147483647 from rfl]; omega)) (hN _ _ _ h H locs ls hw hS hls)
  | i2c =>
    obtain ⟨z, t, rfl, h⟩ := zpi_ok h
    cases zlen_eq hck
    intro H locs ls hw hS hls
    exact lv_i2c hx hcd hdg (zi2c z) (hN _ _ _ h H locs ls hw hS hls)
  | lsub =>
    obtain ⟨z, t, rfl, h⟩ := zpl_ok h
    obtain ⟨z2, t, rfl, h⟩ := zpl_ok h
    cases zlen_eq hck
    intro H locs ls hw hS hls
    refine lv_lsub hx hcd hdg ?_
    rw [← Int64.ofInt_sub]
    exact hN _ _ _ h H locs ls hw hS hls
  | lcmp =>
    obtain ⟨z, t, rfl, h⟩ := zpl_ok h
    obtain ⟨z2, t, rfl, h⟩ := zpl_ok h
    obtain ⟨ha, hb, h⟩ := h
    cases zlen_eq hck
    intro H locs ls hw hS hls
    refine W.lcmp hx hcd hdg ?_
    rw [zblt ha hb]
    exact hN _ _ _ h H locs ls hw hS hls
  | dup =>
    rcases st with _ | ⟨v, t⟩
    · exact h.elim
    · cases hv : zcat v with
      | true => simp only [zop, hv] at h
      | false =>
        simp only [zop, hv] at h
        cases zlen_eq hck
        intro H locs ls hw hS hls
        exact lv_dup hx hcd hdg (by rw [zc_cat, hv]; rfl) (hN _ _ _ h H locs ls hw hS hls)
  | dup2 =>
    rcases st with _ | ⟨v, _ | ⟨w, t⟩⟩
    · exact h.elim
    · exact h.elim
    · cases hv : (zcat v || zcat w) with
      | true => simp only [zop, hv] at h
      | false =>
        simp only [zop, hv] at h
        rw [Bool.or_eq_false_iff] at hv
        cases zlen_eq hck
        intro H locs ls hw hS hls
        exact lv_dup2_11 hx hcd hdg (by rw [zc_cat, hv.1]; rfl) (by rw [zc_cat, hv.2]; rfl) (hN _ _ _ h H locs ls hw hS hls)
  | getfield idx =>
    obtain ⟨k, t, rfl, h⟩ := zpr_ok h
    obtain ⟨fs, hk, h⟩ := zob_ok h
    replace hck := Bool.and_eq_true _ _ ▸ hck
    cases zlen_eq hck.1
    have hf : ∃ nest, zfl md.2.2.2.2.2 idx = some (a, b, nest) := by
      rcases Bool.or_eq_true _ _ ▸ hck.2 with h1 | h1
      · exact ⟨_, of_decide_eq_true h1⟩
      · exact ⟨_, of_decide_eq_true h1⟩
    obtain ⟨nest, hf⟩ := hf
    cases hb : fs[b]? with
    | none => simp only [hb] at h
    | some f =>
      rcases f with _ | _ | r
      · simp only [hb] at h
        exact zget_ok hX hf hdg hk hb rfl (hN _ _ _ h)
      · simp only [hb] at h
      · simp only [hb] at h
        exact zget_ok hX hf hdg hk hb rfl (hN _ _ _ h)
  | putfield idx =>
    obtain ⟨v, t, rfl, h⟩ := zpi_ok h
    obtain ⟨k, t, rfl, h⟩ := zpr_ok h
    obtain ⟨fs, hk, h⟩ := zob_ok h
    replace hck := Bool.and_eq_true _ _ ▸ hck
    obtain ⟨hck1, hck2⟩ := hck
    replace hck1 := Bool.and_eq_true _ _ ▸ hck1
    cases zlen_eq hck1.1
    have hf : ∃ nest, zfl md.2.2.2.2.2 idx = some (a, b, nest) := by
      rcases Bool.or_eq_true _ _ ▸ hck1.2 with h1 | h1
      · exact ⟨_, of_decide_eq_true h1⟩
      · exact ⟨_, of_decide_eq_true h1⟩
    obtain ⟨nest, hf⟩ := hf
    cases hb : fs[b]? with
    | none => simp only [hb] at h
    | some f =>
      rcases f with _ | f
      · simp only [hb] at h
        exact zput_ok hX hf hck2 hdg hk hb (hN _ _ _ h)
      · simp only [hb] at h
  | iaload =>
    obtain ⟨z, t, rfl, h⟩ := zpi_ok h
    obtain ⟨k, t, rfl, h⟩ := zpr_ok h
    obtain ⟨n', hk, hn, hz, h⟩ := zar_ok h
    cases zlen_eq hck
    exact ziald_ok hX hdg hk hn hz (hN _ _ _ h)
  | caload =>
    obtain ⟨z, t, rfl, h⟩ := zpi_ok h
    obtain ⟨k, t, rfl, h⟩ := zpr_ok h
    obtain ⟨n', hk, hn, hz, h⟩ := zar_ok h
    cases zlen_eq hck
    exact zcald_ok hX hdg hk hn hz (hN _ _ _ h)
  | aaload =>
    obtain ⟨z, t, rfl, h⟩ := zpi_ok h
    obtain ⟨k, t, rfl, h⟩ := zpr_ok h
    obtain ⟨n', hk, hn, hz, h0, h⟩ := zar_ok h
    cases zlen_eq hck
    exact zaald_ok hX hdg hk hn hz h0 (hN _ _ _ h)
  | iastore =>
    obtain ⟨v, t, rfl, h⟩ := zpi_ok h
    obtain ⟨z, t, rfl, h⟩ := zpi_ok h
    obtain ⟨k, t, rfl, h⟩ := zpr_ok h
    obtain ⟨n', hk, hn, hz, h⟩ := zar_ok h
    cases zlen_eq hck
    exact ziast_ok hX hdg hk hn hz (hN _ _ _ h)
  | castore =>
    obtain ⟨v, t, rfl, h⟩ := zpi_ok h
    obtain ⟨z, t, rfl, h⟩ := zpi_ok h
    obtain ⟨k, t, rfl, h⟩ := zpr_ok h
    obtain ⟨n', hk, hn, hz, hv, h⟩ := zar_ok h
    cases zlen_eq hck
    exact zcast_ok hX hdg hk hn hz hv (hN _ _ _ h)
  | aastore =>
    obtain ⟨r, t, rfl, h⟩ := zpr_ok h
    obtain ⟨z, t, rfl, h⟩ := zpi_ok h
    obtain ⟨k, t, rfl, h⟩ := zpr_ok h
    obtain ⟨n', hk, hn, hz, h0, h1, h⟩ := zar_ok h
    obtain ⟨fs, h1, -⟩ := zob_ok h1
    cases zlen_eq hck
    exact zaast_ok hX hdg hk hn hz h0 h1 (hN _ _ _ h)
  | arraylength =>
    obtain ⟨k, t, e0, h3⟩ := zpr_ok h
    clear h
    subst e0
    cases zlen_eq hck
    cases hk : Sh[k]? with
    | none => simp only [hk] at h3
    | some sp =>
      rcases sp with o | ⟨t0, n'⟩
      · simp only [hk] at h3
      · cases ht : Nat.blt t0 3 with
        | false => simp only [hk, ht] at h3
        | true =>
          simp only [hk, ht] at h3
          exact zalen_ok hX hdg hk (Nat.le_of_ble_eq_true ht) (hN _ _ _ h3)
  | goto o =>
    replace hck := Bool.and_eq_true _ _ ▸ hck
    cases zlen_eq hck.1
    intro H locs ls hw hS hls
    exact lv_goto hx hcd hdg (of_decide_eq_true hck.2) (hXk _ _ _ _ h H locs ls hw hS hls)
  | ifCond cd o =>
    obtain ⟨z, t, rfl, hz, h⟩ := zpi_ok h
    replace hck := Bool.and_eq_true _ _ ▸ hck
    cases zlen_eq hck.1
    refine zcmp0_ok hX hdg (of_decide_eq_true hck.2) hz ?_
    cases cd <;> exact ⟨fun q => (by first | exact hXk _ _ _ _ (h.1 q) | exact hN _ _ _ (h.1 q)), fun q => (by first | exact hXk _ _ _ _ (h.2 q) | exact hN _ _ _ (h.2 q))⟩
  | if_icmp cd o =>
    obtain ⟨z, t, rfl, h⟩ := zpi_ok h
    obtain ⟨z2, t, rfl, hz, hz2, h⟩ := zpi_ok h
    replace hck := Bool.and_eq_true _ _ ▸ hck
    cases zlen_eq hck.1
    refine zicmp_ok hX hdg (of_decide_eq_true hck.2) hz hz2 ?_
    cases cd <;> exact ⟨fun q => (by first | exact hXk _ _ _ _ (h.1 q) | exact hN _ _ _ (h.1 q)), fun q => (by first | exact hXk _ _ _ _ (h.2 q) | exact hN _ _ _ (h.2 q))⟩
  | tableswitch d lo hi offs =>
    obtain ⟨z, t, rfl, hz, h⟩ := zpi_ok h
    replace hck := Bool.and_eq_true _ _ ▸ hck
    obtain ⟨hck1, hck2⟩ := hck
    replace hck1 := Bool.and_eq_true _ _ ▸ hck1
    refine ztsw_ok hX hdg (of_decide_eq_true hck1.1) (fun o ho => of_decide_eq_true (List.all_eq_true.mp hck1.2 o ho)) (of_decide_eq_true hck2) hz ?_
    have mono : ∀ (os : List Int) (v : Int), zts (fun tg => X tg lv t μ) pc d z os v → zts (fun tg => zW md G p l e s m args below meth c Q cn sn tg lv t Sh μ) pc d z os v := by
      intro os
      induction os with
      | nil => exact fun v h => hXk _ _ _ _ h
      | cons o os ih => exact fun v h => ⟨fun q => hXk _ _ _ _ (h.1 q), fun q => ih _ (h.2 q)⟩
    exact mono _ _ h
  | lookupswitch d ps =>
    obtain ⟨z, t, rfl, hz, h⟩ := zpi_ok h
    replace hck := Bool.and_eq_true _ _ ▸ hck
    obtain ⟨hck1, hck2⟩ := hck
    replace hck1 := Bool.and_eq_true _ _ ▸ hck1
    refine zlksw_ok hX hdg (of_decide_eq_true hck1.1) (fun o ho => of_decide_eq_true (List.all_eq_true.mp hck1.2 o ho)) hck2 hz ?_
    have mono : ∀ (os : List (Int × Int)), zlsw (fun tg => X tg lv t μ) pc d z os → zlsw (fun tg => zW md G p l e s m args below meth c Q cn sn tg lv t Sh μ) pc d z os := by
      intro os
      induction os with
      | nil => exact fun h => hXk _ _ _ _ h
      | cons o os ih => exact fun h => ⟨fun q => hXk _ _ _ _ (h.1 q), fun q => ih (h.2 q)⟩
    exact mono _ h
  | _ => exact h.elim
theorem zw_ok (hX : zX md G p s m args meth c) {X : Nat → zL → List zV → zM → Prop} (hXk : ∀ pc lv st μ, X pc lv st μ → zW md G p l e s m args below meth c Q cn sn pc lv st Sh μ) : ∀ (is : List zI) (pc : Nat), zdec md pc is = true → ∀ (lv : zL) (st : List zV) (μ : zM), zw Sh X is pc lv st μ → zW md G p l e s m args below meth c Q cn sn pc lv st Sh μ
  | [], pc, _, lv, st, μ, h => hXk _ _ _ _ h
  | q :: is, pc, hd, lv, st, μ, h => by
    unfold zdec at hd
    rw [Bool.and_eq_true] at hd
    exact zop_ok hX hXk q pc (fun lv st μ h1 => zw_ok hX hXk is _ hd.2 lv st μ h1) hd.1 lv st μ h
end ZB
