/-! THE CLAIM OUT OF ONE WALK OF THE LAW'S BODY -/
def LV5 (G : zG) (b k : Nat) : List (Nat × Value) := [(4, Value.int (nI k)), (3, Value.int (Int32.ofInt 1)), (2, Value.ref (G.1 + 113)), (1, Value.ref (G.1 + 0)), (0, Value.ref b)]
theorem d5_ok : Dz md_5_init [zr 0] ([] ++ [.inl (5, [some none, some none, some none, some none, none])]) (fun _ _ => 0) none zSh μ0 := by
  have h := zc_TaleHoles_ok (Sh := [.inl (5, [some none, some none, some none, some none, none])]) (k := 0) (N := 1) (μ := fun _ _ => 0) rfl rfl (fun j hj z => rfl) (fun z => rfl)
  rw [zc_one] at h
  exact h
section LAW
variable {G : zG} {p : Program} {l : Launch} {e : Env} {s : State} {m : MethodId} {below : List Frame} {meth : Method} {c : Code} {b L : Nat} {xs : Nat → Int32} {cn sn k : Nat} {μ ν : zM}
theorem law_end (K : LC G p s m meth c b) (hcn : cn ≤ 600000 ∧ sn ≤ 7302250) (R : R2 μ ν) : LW (fun _ => True) G p l e s m below meth c b cn sn 96 (LV5 G b k) [] zSp (cmb μ ν) := by
  have K0 := K
  intro H locs ls hj hw hS hls
  obtain ⟨⟨hx, hcd, hml, hown, hts, hret, hlk, hKK, -⟩, hG⟩ := K
  refine lv_iload_n hx hcd (show decode code 96 = .ok (.iload_n 3, 1) by decide +kernel) rfl (lv_at hls 1 rfl) ?_
  refine lv_if_eq (tgt := 119) hx hcd (show decode code 97 = .ok (.ifCond .eq 22, 3) by decide +kernel) (by decide) (fun q => absurd q (by decide)) (fun _ => ?_)
  refine lv_aload_n hx hcd (show decode code 100 = .ok (.aload_n 1, 1) by decide +kernel) rfl (lv_at hls 3 rfl) ?_
  refine (LW.cS (J := fun _ => True) (mc := md_6_isWell) (n := 1) (As := [zr 0]) (rest := []) (fun _ _ _ _ => trivial) K0 (show decode code 101 = .ok (.invokestatic 115, 3) by decide +kernel) zw_603 ok_6_isWell rfl rfl hcn (lz_isWell R) rfl rfl ?_) H locs ls hj hw hS hls
  intro H locs ls hj hw hS hls
  refine lv_if_eq (tgt := 119) hx hcd (show decode code 104 = .ok (.ifCond .eq 15, 3) by decide +kernel) (by decide) (fun q => absurd q (by decide)) (fun _ => ?_)
  refine lv_aload_n hx hcd (show decode code 107 = .ok (.aload_n 1, 1) by decide +kernel) rfl (lv_at hls 3 rfl) ?_
  refine lv_aload_n hx hcd (show decode code 108 = .ok (.aload_n 2, 1) by decide +kernel) rfl (lv_at hls 2 rfl) ?_
  refine (LW.cS (J := fun _ => True) (mc := md_6_areAlike) (n := 2) (As := [zr 0, zr 113]) (rest := []) (fun _ _ _ _ => trivial) K0 (show decode code 109 = .ok (.invokestatic 119, 3) by decide +kernel) zw_547 ok_6_areAlike rfl rfl hcn (lz_areAlike R) rfl rfl ?_) H locs ls hj hw hS hls
  intro H locs ls hj hw hS hls
  refine lv_if_eq (tgt := 119) hx hcd (show decode code 112 = .ok (.ifCond .eq 7, 3) by decide +kernel) (by decide) (fun q => absurd q (by decide)) (fun _ => ?_)
  refine lv_iconst (v := 1) hx hcd (show decode code 115 = .ok (.iconst 1, 1) by decide +kernel) (by decide) ?_
  refine lv_goto (tgt := 120) hx hcd (show decode code 116 = .ok (.goto 4, 3) by decide +kernel) (by decide) ?_
  refine va_forget (fun q hq => hS.2.2 q hq) ?_
  refine W.widen (k := 600000) (n := 7302250) hcn.1 hcn.2 ?_
  exact lw_ret hx hcd hret hlk (show decode code 120 = .ok (.ireturn, 1) by decide +kernel)
theorem law_turn (K : LC G p s m meth c b) (SX : LX s b L xs) (hcn : cn ≤ 600000 ∧ sn ≤ 7302250) (hk : k ≤ 60) (R : R2 μ ν) (next : k < 60 → ∀ μ' ν' : zM, R2 μ' ν' → LW (fun _ => True) G p l e s m below meth c b cn sn 35 (LV5 G b (k + 1)) [] zSp (cmb μ' ν')) : LW (fun _ => True) G p l e s m below meth c b cn sn 35 (LV5 G b k) [] zSp (cmb μ ν) := by
  have K0 := K
  intro H locs ls hj hw hS hls
  obtain ⟨⟨hx, hcd, hml, hown, hts, hret, hlk, hKK, -⟩, hG⟩ := K
  refine lv_iload hx hcd (show decode code 35 = .ok (.iload 4, 2) by decide +kernel) (lv_at hls 0 rfl) ?_
  refine lv_bipush (v := nI 60) hx hcd (show decode code 37 = .ok (.bipush 60, 2) by decide +kernel) (by decide) ?_
  refine lv_icmp_ge (tgt := 96) hx hcd (show decode code 39 = .ok (.if_icmp .ge 57, 3) by decide +kernel) (by decide) (fun q => law_end K0 hcn R H locs ls hj hw hS hls) (fun q => ?_)
  have hk60 : k < 60 := by
    rw [nI_of_int, nI_of_int, zle (by omega) (by omega)] at q
    omega
  refine lv_iload_n hx hcd (show decode code 42 = .ok (.iload_n 3, 1) by decide +kernel) rfl (lv_at hls 1 rfl) ?_
  refine lv_if_eq (tgt := 96) hx hcd (show decode code 43 = .ok (.ifCond .eq 53, 3) by decide +kernel) (by decide) (fun q => absurd q (by decide)) (fun _ => ?_)
  refine lv_aload_n hx hcd (show decode code 46 = .ok (.aload_n 1, 1) by decide +kernel) rfl (lv_at hls 3 rfl) ?_
  refine lv_aload_n hx hcd (show decode code 47 = .ok (.aload_n 2, 1) by decide +kernel) rfl (lv_at hls 2 rfl) ?_
  refine lv_aload_n hx hcd (show decode code 48 = .ok (.aload_n 0, 1) by decide +kernel) rfl (lv_at hls 4 rfl) ?_
  refine lv_iload hx hcd (show decode code 49 = .ok (.iload 4, 2) by decide +kernel) (lv_at hls 0 rfl) ?_
  refine (LW.cell (J := fun _ => True) (k := k) (rest := [zr 113, zr 0]) K0 SX (by omega) (show decode code 51 = .ok (.invokestatic 108, 3) by decide +kernel) hcn rfl rfl (fun z1 => ?_)) H locs ls hj hw hS hls
  intro H locs ls hj hw hS hls
  refine lv_aload_n hx hcd (show decode code 54 = .ok (.aload_n 0, 1) by decide +kernel) rfl (lv_at hls 4 rfl) ?_
  refine lv_iload hx hcd (show decode code 55 = .ok (.iload 4, 2) by decide +kernel) (lv_at hls 0 rfl) ?_
  refine lv_iconst (v := nI 1) hx hcd (show decode code 57 = .ok (.iconst 1, 1) by decide +kernel) rfl ?_
  refine lv_iadd hx hcd (show decode code 58 = .ok (.iadd, 1) by decide +kernel) ?_
  rw [nI_add]
  refine (LW.cell (J := fun _ => True) (k := k + 1) (rest := [zi z1, zr 113, zr 0]) K0 SX (by omega) (show decode code 59 = .ok (.invokestatic 108, 3) by decide +kernel) hcn rfl rfl (fun z2 => ?_)) H locs ls hj hw hS hls
  intro H locs ls hj hw hS hls
  refine lv_iconst (v := nI 2) hx hcd (show decode code 62 = .ok (.iconst 2, 1) by decide +kernel) rfl ?_
  refine lv_ishr hx hcd (show decode code 63 = .ok (.ishr, 1) by decide +kernel) ?_
  generalize (Int32.ofInt z2 >>> (nI 2 &&& 31)) = v
  rw [show v = Int32.ofInt v.toInt from (Int32.ofInt_toInt v).symm]
  obtain ⟨μ', ν', R', hD⟩ := lz_isStep R z1 v.toInt
  refine (LW.cS (J := fun _ => True) (mc := md_6_isStep) (n := 4) (As := [zr 0, zr 113, zi z1, zi v.toInt]) (rest := []) (fun _ _ _ _ => trivial) K0 (show decode code 64 = .ok (.invokestatic 112, 3) by decide +kernel) zw_412 ok_6_isStep rfl rfl hcn hD rfl rfl ?_) H locs ls hj hw hS hls
  intro H locs ls hj hw hS hls
  refine lv_if_eq (tgt := 88) hx hcd (show decode code 67 = .ok (.ifCond .eq 21, 3) by decide +kernel) (by decide) (fun q => absurd q (by decide)) (fun _ => ?_)
  have fin : ∀ (H : Heap) (locs : List Loc) (ls : Array Slot), zWd G zSp (cmb μ' ν') H → va_S (fun q => s.heap.size ≤ q) s.heap H locs → lv_has ls 5 (LV5 G b k) → W p l e room_1 s m #[Value.ref b] below meth c H locs cn sn (lw_Z below #[Value.ref b] s) (F0 m 84 ls []) := by
    intro H locs ls hw hS hls
    refine lv_iconst (v := Int32.ofInt 1) hx hcd (show decode code 84 = .ok (.iconst 1, 1) by decide +kernel) rfl ?_
    refine lv_goto (tgt := 89) hx hcd (show decode code 85 = .ok (.goto 4, 3) by decide +kernel) (by decide) ?_
    refine lv_istore_n (lv' := [(3, Value.int (Int32.ofInt 1)), (4, Value.int (nI k)), (2, Value.ref (G.1 + 113)), (1, Value.ref (G.1 + 0)), (0, Value.ref b)]) hx hcd (show decode code 89 = .ok (.istore_n 3, 1) by decide +kernel) rfl hls (by decide) rfl (fun ls hls => ?_)
    refine lv_iinc (v := nI (k + 1)) (lv' := LV5 G b (k + 1)) hx hcd (show decode code 90 = .ok (.iinc 4 1, 3) by decide +kernel) hls (k := 1) rfl (show nI k + Int32.ofInt 1 = nI (k + 1) from nI_add k 1) (by decide) rfl (fun ls hls => ?_)
    refine lv_goto (tgt := 35) hx hcd (show decode code 93 = .ok (.goto (-58), 3) by decide +kernel) (by decide) ?_
    exact next hk60 μ' ν' R' H locs ls trivial hw hS hls
  refine lv_iload hx hcd (show decode code 70 = .ok (.iload 4, 2) by decide +kernel) (lv_at hls 0 rfl) ?_
  refine lv_iconst (v := nI 4) hx hcd (show decode code 72 = .ok (.iconst 4, 1) by decide +kernel) rfl ?_
  refine lv_irem hx hcd (show decode code 73 = .ok (.irem, 1) by decide +kernel) (by decide) ?_
  refine lv_if_gt (tgt := 84) hx hcd (show decode code 74 = .ok (.ifCond .gt 10, 3) by decide +kernel) (by decide) (fun _ => fin H locs ls hw hS hls) (fun _ => ?_)
  refine lv_aload_n hx hcd (show decode code 77 = .ok (.aload_n 1, 1) by decide +kernel) rfl (lv_at hls 3 rfl) ?_
  refine (LW.cS (J := fun _ => True) (mc := md_6_isWell) (n := 1) (As := [zr 0]) (rest := []) (fun _ _ _ _ => trivial) K0 (show decode code 78 = .ok (.invokestatic 115, 3) by decide +kernel) zw_603 ok_6_isWell rfl rfl hcn (lz_isWell R') rfl rfl ?_) H locs ls hj hw hS hls
  intro H locs ls hj hw hS hls
  refine lv_if_eq (tgt := 88) hx hcd (show decode code 81 = .ok (.ifCond .eq 7, 3) by decide +kernel) (by decide) (fun q => absurd q (by decide)) (fun _ => ?_)
  exact fin H locs ls hw hS hls
theorem law_loop (K : LC G p s m meth c b) (SX : LX s b L xs) (hcn : cn ≤ 600000 ∧ sn ≤ 7302250) : ∀ (d k : Nat), k ≤ 60 → 60 ≤ k + d → ∀ μ ν : zM, R2 μ ν → LW (fun _ => True) G p l e s m below meth c b cn sn 35 (LV5 G b k) [] zSp (cmb μ ν) := by
  intro d
  induction d with
  | zero => intro k h1 h2 μ ν R; exact law_turn K SX hcn h1 R (fun h => absurd h (by omega))
  | succ d ih => intro k h1 h2 μ ν R; exact law_turn K SX hcn h1 R (fun h μ' ν' R' => ih (k + 1) (by omega) (by omega) μ' ν' R')
theorem law_main (K : LC G p s m meth c b) (SX : LX s b L xs) (hcn : cn ≤ 600000 ∧ sn ≤ 7302250) : LW (fun _ => True) G p l e s m below meth c b cn sn 16 [(2, Value.ref (G.1 + 113)), (1, Value.ref (G.1 + 0)), (0, Value.ref b)] [] zSp (cmb μ0 μ0) := by
  have K0 := K
  intro H locs ls hj hw hS hls
  obtain ⟨⟨hx, hcd, hml, hown, hts, hret, hlk, hKK, -⟩, hG⟩ := K
  refine lv_aload_n hx hcd (show decode code 16 = .ok (.aload_n 1, 1) by decide +kernel) rfl (lv_at hls 1 rfl) ?_
  refine lv_aload_n hx hcd (show decode code 17 = .ok (.aload_n 2, 1) by decide +kernel) rfl (lv_at hls 0 rfl) ?_
  refine lv_aload_n hx hcd (show decode code 18 = .ok (.aload_n 0, 1) by decide +kernel) rfl (lv_at hls 2 rfl) ?_
  refine lv_iconst (v := nI 0) hx hcd (show decode code 19 = .ok (.iconst 0, 1) by decide +kernel) rfl ?_
  refine (LW.cell (J := fun _ => True) (k := 0) (rest := [zr 113, zr 0]) K0 SX (by omega) (show decode code 20 = .ok (.invokestatic 108, 3) by decide +kernel) hcn rfl rfl (fun z1 => ?_)) H locs ls hj hw hS hls
  intro H locs ls hj hw hS hls
  refine lv_aload_n hx hcd (show decode code 23 = .ok (.aload_n 0, 1) by decide +kernel) rfl (lv_at hls 2 rfl) ?_
  refine lv_iconst (v := nI 1) hx hcd (show decode code 24 = .ok (.iconst 1, 1) by decide +kernel) rfl ?_
  refine (LW.cell (J := fun _ => True) (k := 1) (rest := [zi z1, zr 113, zr 0]) K0 SX (by omega) (show decode code 25 = .ok (.invokestatic 108, 3) by decide +kernel) hcn rfl rfl (fun z2 => ?_)) H locs ls hj hw hS hls
  intro H locs ls hj hw hS hls
  obtain ⟨μ', ν', R', hD⟩ := lz_isRead R2_μ0 z1 z2
  refine (LW.cS (J := fun _ => True) (mc := md_6_isRead) (n := 4) (As := [zr 0, zr 113, zi z1, zi z2]) (rest := []) (fun _ _ _ _ => trivial) K0 (show decode code 28 = .ok (.invokestatic 82, 3) by decide +kernel) zw_173 ok_6_isRead rfl rfl hcn hD rfl rfl ?_) H locs ls hj hw hS hls
  intro H locs ls hj hw hS hls
  refine lv_istore_n (lv' := [(3, Value.int (Int32.ofInt 1)), (2, Value.ref (G.1 + 113)), (1, Value.ref (G.1 + 0)), (0, Value.ref b)]) hx hcd (show decode code 31 = .ok (.istore_n 3, 1) by decide +kernel) rfl hls (by decide) rfl (fun ls hls => ?_)
  refine lv_iconst (v := nI 2) hx hcd (show decode code 32 = .ok (.iconst 2, 1) by decide +kernel) rfl ?_
  refine lv_istore (lv' := LV5 G b 2) hx hcd (show decode code 33 = .ok (.istore 4, 2) by decide +kernel) hls (by decide) rfl (fun ls hls => ?_)
  exact law_loop K0 SX hcn 58 2 (by decide) (by decide) μ' ν' R' H locs ls trivial hw hS hls
end LAW
-- ===== YOUR PART BEGINS =====
/-- from the entry: the two objects are made, a tale read in both, then the steps -/
theorem whole_start {p : Program} {e : Env} {s : State} {m : MethodId} {below : List Frame} {meth : Method} {c : Code} (l : Launch) (hflags : l.flags = flags0) {b L : Nat} {xs : Nat → Int32} (hL : L ≤ 260) (C0 : lw_At p s m meth c b L xs) : W p l e room_1 s m #[Value.ref b] below meth c s.heap [] 0 0 (lw_Z below #[Value.ref b] s) (entryFrame m ([Value.ref b] : List Value).toArray 5) := by
  obtain ⟨hx, hb, hr, hml, hown, hts, hX, hbl, hlocks, hgv⟩ := C0
  obtain ⟨D, A, hA, hKK⟩ := law_zK hts s.heap.size
  obtain ⟨G, hG⟩ : ∃ G : zG, G = (s.heap.size, D, A) := ⟨_, rfl⟩
  have hG1 : G.1 = s.heap.size := by rw [hG]
  have he : zE G = 0 := by rw [hG]; exact hA
  rw [← hG] at hKK
  have hKp : zK (zGp G) s := hKK
  have K : LC G p s m meth c b := ⟨⟨hx, hb, hml, hown, fun w h => hts w (wz_tbl h), hr, hlocks, hKK, fun h => absurd h (by decide), fun h => absurd h (by decide)⟩, by omega⟩
  have Kp : LC (zGp G) p s m meth c b := ⟨⟨hx, hb, hml, hown, fun w h => hts w (wz_tbl h), hr, hlocks, hKp, fun h => absurd h (by decide), fun h => absurd h (by decide)⟩, by show _ ≤ G.1 + 113; omega⟩
  have SX : LX s b L xs := ⟨hX, hbl, hL⟩
  obtain ⟨JJ, hJe⟩ : ∃ JJ : Heap → Prop, JJ = fun H => ∀ (k : Nat) (sp : zS), zSh[k]? = some sp → va_at G.2.1 vwCl (G.1 + k, zcell G μ0 k sp) H := ⟨_, rfl⟩
  have hJJ : LJ JJ (zGp G) := by
    intro H H1 hq hj
    rw [hJe] at hj ⊢
    intro k sp hk
    have hl : k < 113 := by have := (List.getElem?_eq_some_iff.mp hk).1; rw [zSh_len] at this; exact this
    exact (hj k sp hk).kept (hq _ (show G.1 + k < G.1 + 113 by omega) (hj k sp hk).lt)
  have second : LW JJ (zGp G) p l e s m below meth c b 113 3217 8 [(1, Value.ref (G.1 + 0)), (0, Value.ref b)] [] [] (fun _ _ => 0) := by
    refine LW.new (J := JJ) (ci := 5) (N := 5) (Lk := 0) (fs := [some none, some none, some none, some none, none]) hJJ Kp he (show decode code 8 = .ok (.new 10, 3) by decide +kernel) zy_lawCL_5 zy_inst_5 zy_init_5 rfl rfl rfl (fun z => rfl) ⟨by decide, by decide⟩ ?_
    refine LW.dup (k := 0) Kp (show decode code 11 = .ok (.dup, 1) by decide +kernel) ?_
    refine LW.cI (J := JJ) (mc := md_5_init) (k := 0) (n := 0) (As := []) (rest := [zr 0]) hJJ Kp he (show decode code 12 = .ok (.invokespecial 107, 3) by decide +kernel) zy_lawML_5 ok_5_init rfl rfl rfl ⟨by decide, by decide⟩ d5_ok rfl rfl ?_
    refine LW.astore (j := 2) (t := 2) (a := G.1 + 113) (lv' := [(2, .ref (G.1 + 113)), (1, .ref (G.1 + 0)), (0, .ref b)]) Kp (show decode code 15 = .ok (.astore_n 2, 1) by decide +kernel) rfl rfl ?_
    intro H locs ls hj hw hS hls
    rw [hJe] at hj
    have hsz := hw.1.1
    rw [zSh_len] at hsz
    have w1 : zWd (zGo G) zSh μ0 H := ⟨⟨by rw [zSh_len, hsz]; show G.1 + 113 + 113 + zE G = G.1 + 113 + 113; rw [he], Or.inr zSh_len⟩, fun k sp hk => by rw [zcell_o (zSh_k3 hk)]; exact hj k sp hk⟩
    exact law_main K SX ⟨by decide, by decide⟩ H locs ls trivial (zW2_join he w1 hw) hS hls
  have start : LW (fun _ => True) G p l e s m below meth c b 0 0 0 [(0, Value.ref b)] [] [] (fun _ _ => 0) := by
    refine LW.new (J := fun _ => True) (ci := 5) (N := 5) (Lk := 0) (fs := [some none, some none, some none, some none, none]) (fun _ _ _ _ => trivial) K he (show decode code 0 = .ok (.new 10, 3) by decide +kernel) zy_lawCL_5 zy_inst_5 zy_init_5 rfl rfl rfl (fun z => rfl) ⟨by decide, by decide⟩ ?_
    refine LW.dup (k := 0) K (show decode code 3 = .ok (.dup, 1) by decide +kernel) ?_
    refine LW.cI (J := fun _ => True) (mc := md_5_init) (k := 0) (n := 0) (As := []) (rest := [zr 0]) (fun _ _ _ _ => trivial) K he (show decode code 4 = .ok (.invokespecial 107, 3) by decide +kernel) zy_lawML_5 ok_5_init rfl rfl rfl ⟨by decide, by decide⟩ d5_ok rfl rfl ?_
    refine LW.astore (j := 1) (t := 1) (a := G.1 + 0) (lv' := [(1, .ref (G.1 + 0)), (0, .ref b)]) K (show decode code 7 = .ok (.astore_n 1, 1) by decide +kernel) rfl rfl ?_
    intro H locs ls hj hw hS hls
    refine second H locs ls (by rw [hJe]; exact hw.2) ⟨⟨?_, Or.inl he⟩, fun k sp h => by simp at h⟩ hS hls
    rw [hw.sz he, zSh_len]
    show G.1 + 113 = G.1 + 113 + 0 + zE G
    rw [he]
  have hl := lv_entry ([Value.ref b]) (n := 5) (Nat.le_of_ble_eq_true rfl)
  rw [lg_entry_eq]
  generalize (lg_sl ([Value.ref b]) ++ List.replicate (5 - (lg_sl ([Value.ref b])).length) Slot.unset).toArray = ls at hl ⊢
  exact start s.heap [] ls trivial ⟨⟨by rw [hG1, he]; rfl, Or.inl he⟩, fun k sp h => by simp at h⟩ va_S.rf hl
-- ===== YOUR PART ENDS =====
set_option maxHeartbeats 4000000 in
theorem lw_walk (l : Launch) (hflags : l.flags = flags0) (b : Addr) (xs : List Int32) : MetFree l x (headSpec (Jvm.Cond.code x code maxLocals ret :: tables_1) room_1) (lw_P b xs) (fun _ _ _ _ _ => True) lw_Q := by
  refine MetFree.of_bodyS (code := code) (maxLocals := maxLocals) (ret := ret) (by decide) ?_ ?_
  · intro args s m h hn
    obtain ⟨meth, c, h1, h2, h3, h4, h5, h6, -, -⟩ := Cond.code_spec hn (atoms_spec (ws := Jvm.Cond.code x code maxLocals ret :: tables_1) h _ List.mem_cons_self)
    exact ⟨meth, c, h1, h2, h3, h4, h5, h6⟩
  · intro p e s m args below meth c s₁ B hml0 hP _
    obtain ⟨rfl, hx, hbd, hgv⟩ := hP
    obtain ⟨scr, harrAt, hlist, hof, hsmall⟩ := hx
    obtain ⟨hcb, hkn, -, -⟩ := State.arrayAt?_spec harrAt
    have hown : s.vm.findClass R_law = some m.cls := findClass_of_methodNamed B.named
    have hts0 : ∀ c ∈ (Jvm.Cond.code x code maxLocals ret :: tables_1), c.before #[Value.ref b] s = true := atoms_spec (ws := Jvm.Cond.code x code maxLocals ret :: tables_1) B.pre
    have hts : ∀ w ∈ lw_tbl, w.before #[Value.ref b] s = true := k2_hts_sels lw_privs (fun w hw => hts0 w (List.mem_cons_of_mem _ hw)) lw_privs_ok
    have hml : c.maxLocals = 5 := B.maxLocals_eq (hts0 _ List.mem_cons_self)
    have X₀ : Stand p l e room_1 s m #[Value.ref b] below meth c s₁ [] 0 0 := Stand.of_body B
    have hh0 : s₁.heap = s.heap := by rw [B.state]; rfl
    have hsz : scr.slots.size = xs.length := by rw [← Array.length_toList, hlist, List.length_map]
    have hval : ∀ j : Nat, j < xs.length → scr.slots[j]? = some (.int (xs.getD j 0)) := fun j hj => by
      rw [← Array.getElem?_toList, hlist]
      simp [hj]
    have hbl : b < s.heap.size := (Array.getElem?_eq_some_iff.mp hcb).1
    have hX : va_X b xs.length (fun j => xs.getD j 0) s s.heap := ⟨scr, hcb, hof, hkn, hsz, hval⟩
    have K : W p l e room_1 s m #[Value.ref b] below meth c s₁.heap [] 0 0 (lw_Z below #[Value.ref b] s) (entryFrame m ([Value.ref b] : List Value).toArray 5) := by
      rw [hh0]
      exact whole_start l hflags hbd ⟨B.exec, B.bytes, B.returns, hml, hown, hts, hX, hbl, B.notSynchronized, hgv⟩
    obtain ⟨t, a1, o, b1, b2, b3⟩ := K s₁ rfl X₀
    exact ⟨t, o, a1, b1, b2, b3⟩
theorem lw_pre_spec {args : Array Value} {s : State} (h : (Jvm.Cond.and given_1 narrow_1).before args s = true) (hr : rest_1_c.before args s = true) : ∃ (b : Addr) (xs : List Int32), lw_P b xs args s := by
  have hs := flat_of_before _ h
  have hq := flat_of_before _ hr
  have hc : (Cond.count 1).before args s = true := hs _ (by decide +kernel)
  have harr : (Cond.arrayOf (.arg 0) .int).before args s = true := hs _ (by decide +kernel)
  have hle : (Cond.le (.length (.arg 0)) (.int 260)).before args s = true := hs _ (by decide +kernel)
  have hlen : (Cond.isInt (.length (.arg 0))).before args s = true := hq _ (by decide +kernel)
  have hall : (Cond.all (.arg 0) (.isInt (.elem (.arg 0) (.index 0)))).before args s = true := hq _ (by decide +kernel)
  obtain ⟨b, xs, hb, hx⟩ := State.ints_of_pre rfl harr hlen hall
  have hsm : xs.length < 2 ^ 31 := hx.choose_spec.2.2.2
  have hev : (Term.length (.arg 0)).eval args s none [] s = some (.int xs.length.toInt32) := hx.length_eval hb
  have hv := Cond.le_ints hev (show (Term.int 260).eval args s none [] s = some (.int 260) from rfl)
  have hd : xs.length.toInt32 ≤ 260 := by
    simpa [Cond.before, Cond.holds, hv] using hle
  have hN : xs.length ≤ 260 := (Int32.ofNat_le_ofNat hsm (by decide)).mp (show Int32.ofNat xs.length ≤ Int32.ofNat 260 from hd)
  exact ⟨b, xs, Cond.one_arg hc (show args[0]? = some (.ref b) from hb), hx, hN, h⟩
theorem lw_comes (l : Launch) (hflags : l.flags = flags0) : Comes l x (Jvm.Cond.code x code maxLocals ret :: tables_1) room_1 (fun tb e args s => Calls_1 tb e args s ∧ rest_1 tb e args s ∧ Pre_1 tb e args s)
    (fun _ _ args s o t => lw_Q args s o t) := by
  intro p e ha hc hk s m args below hf hfit hheap happ hpre
  obtain ⟨b, xs, hP⟩ := lw_pre_spec hpre.2.2 hpre.2.1
  obtain ⟨k, o, h1, h2, h3, hQ⟩ := lw_walk l hflags b xs p e ha hc hk s m args below hf ((Spec.applies_iff_loose hf).mp happ).1 hP trivial
  exact ⟨k, o, h1, h2, h3, hQ⟩
theorem lw_frame {s t : State} {o : Outcome} {args : Array Value} (h : Framed s o t [] 600000 7302250) :
    Framed s o t (fieldLocs frame_1_writes args s ++ arrayLocs frame_1_arrays args s ++ staticLocs frame_1_statics s) 600000 7302250 := h
theorem lw_limb (L : Cond) (hL : ∀ (args : Array Value) (s t : State), L.after args s (.returned (some (.int 1))) t = true) :
    ArmFor flags0 classFile x code maxLocals ret World_1 tables_1 room_1 Calls_1 rest_1 Pre_1
      (fun tb e a s o t => postC L tb e a s o t ∧ Framed s o t (fieldLocs frame_1_writes a s ++ arrayLocs frame_1_arrays a s ++ staticLocs frame_1_statics s) 600000 7302250) := by
  intro l hflags _ _ p e ha hc hk s m args below hf hfit hheap happ hpre
  obtain ⟨k, o, h1, h2, h3, rfl, hF⟩ := lw_comes l hflags p e ha hc hk s m args below hf hfit hheap happ hpre
  exact ⟨k, _, h1, h2, h3, hL args s _, lw_frame hF⟩
theorem i_vc : Claimed_1_1 ∧ Claimed_1_2 := ⟨lw_limb limb_1_1 (fun args s t => by simp [limb_1_1, Cond.after, Cond.holds, Cond.value]), lw_limb limb_1_2 (fun args s t => Cond.after_iff.mpr (by
  first | (rw [show limb_1_2 = Cond.eq .result (.int 1) from rfl, Cond.eq_ints (x := 1) (y := 1) rfl rfl]; simp; done) | (simp [limb_1_2, Cond.value, Term.eval]; done)))⟩
