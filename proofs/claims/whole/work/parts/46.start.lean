/-! the law's loop and its start -/
theorem nI_of_int (i : Nat) : nI i = Int32.ofInt (i : Int) := by
  show Int32.ofNat i = _
  exact (Int32.ofInt_eq_ofNat).symm
theorem law_cmp {L i : Nat} (hL : L ≤ 2560) (hi : i ≤ 3000) : Int32.ofNat L - Int32.ofInt 5 < nI i ↔ L < i + 5 := by
  have e : Int32.ofNat L - Int32.ofInt 5 = Int32.ofInt ((L : Int) - 5) := by
    rw [Int32.ofInt_sub, show Int32.ofNat L = Int32.ofInt (L : Int) from nI_of_int L]
  rw [e, nI_of_int, zlt (by omega) (by omega)]
  omega
theorem law_sel (v : Int32) : 0 ≤ (v &&& 31).toInt ∧ (v &&& 31).toInt ≤ 31 := by
  have h : (v &&& 31).toBitVec = v.toBitVec &&& 31#32 := rfl
  have h2 : (v.toBitVec &&& 31#32).toNat ≤ 31 := by
    rw [BitVec.toNat_and]
    exact Nat.and_le_right
  show 0 ≤ (v &&& 31).toBitVec.toInt ∧ (v &&& 31).toBitVec.toInt ≤ 31
  rw [h, BitVec.toInt_eq_toNat_cond]
  omega
section LAW
variable {G : zG} {p : Program} {l : Launch} {e : Env} {s : State} {m : MethodId} {below : List Frame} {meth : Method} {c : Code} {b L : Nat} {xs : Nat → Int32}
theorem law_end (K : LC G p s m meth c b L xs) {i : Nat} {μ : zM} : LW G p l e s m below meth c b 120 7796 789 (LV G b i) [] zSh μ := by
  intro H locs ls hw hS hls
  obtain ⟨hX, hs, hbl, hG, hL⟩ := K
  obtain ⟨hx, hcd, hml, hown, hts, hret, hlk, hKK, -⟩ := hX
  refine lv_iconst (v := 1) hx hcd (show decode code 789 = .ok (.iconst 1, 1) by decide +kernel) (by decide) ?_
  refine va_forget (fun q hq => by rw [← hG]; exact hS.2.2 q hq) ?_
  refine W.widen (k := 600000) (n := 7302250) (by decide) (by decide) ?_
  exact lw_ret hx hcd hret hlk (show decode code 790 = .ok (.ireturn, 1) by decide +kernel)
set_option maxHeartbeats 4000000 in
theorem law_loop (K : LC G p s m meth c b L xs) : ∀ (n i : Nat) (μ : zM), i ≤ L + 4 → L + 6 ≤ i + n → zB μ → Rz μ → LW G p l e s m below meth c b 120 7796 18 (LV G b i) [] zSh μ := by
  intro n
  induction n with
  | zero => intro i μ h1 h2; omega
  | succ n ih =>
    intro i μ h1 h2 B R
    have K0 := K
    intro H locs ls hw hS hls
    obtain ⟨hX, hs, hbl, hG, hL⟩ := K
    obtain ⟨hx, hcd, hml, hown, hts, hret, hlk, hKK, -⟩ := hX
    refine lv_iload_n hx hcd (show decode code 18 = .ok (.iload_n 3, 1) by decide +kernel) rfl (lv_at hls 3 rfl) ?_
    refine lv_aload_n hx hcd (show decode code 19 = .ok (.aload_n 0, 1) by decide +kernel) rfl (lv_at hls 0 rfl) ?_
    refine va_slen hx hcd hs hbl (by omega) hS (show decode code 20 = .ok (.arraylength, 1) by decide +kernel) ?_
    refine lv_iconst (v := Int32.ofInt 5) hx hcd (show decode code 21 = .ok (.iconst 5, 1) by decide +kernel) rfl ?_
    refine lv_isub hx hcd (show decode code 22 = .ok (.isub, 1) by decide +kernel) ?_
    refine lv_icmp_gt (tgt := 789) hx hcd (show decode code 23 = .ok (.if_icmp .gt 766, 3) by decide +kernel) (by decide) (fun q => ?_) (fun q => ?_)
    · exact law_end K0 H locs ls hw hS hls
    · have hi : i + 5 ≤ L := by
        rcases Nat.lt_or_ge L (i + 5) with h | h
        · exact absurd ((law_cmp hL (by omega)).mpr h) q
        · exact h
      have loop : ∀ μ' : zM, zB μ' → Rz μ' → LW G p l e s m below meth c b 120 7796 783 (LV G b i) [] zSh μ' := fun μ' B' R' => LW.next K0 (ih (i + 5) μ' (by omega) (by omega) B' R')
      refine lv_aload_n hx hcd (show decode code 26 = .ok (.aload_n 0, 1) by decide +kernel) rfl (lv_at hls 0 rfl) ?_
      refine lv_iload_n hx hcd (show decode code 27 = .ok (.iload_n 3, 1) by decide +kernel) rfl (lv_at hls 3 rfl) ?_
      refine va_sld hx hcd hs hbl (by omega) hS (vp_in_nI (show i < L by omega) (by omega)) (show decode code 28 = .ok (.iaload, 1) by decide +kernel) ?_
      rw [nI_clamp (by omega)]
      refine lv_bipush (v := 31) hx hcd (show decode code 29 = .ok (.bipush 31, 2) by decide +kernel) (by decide) ?_
      refine lv_iand hx hcd (show decode code 31 = .ok (.iand, 1) by decide +kernel) ?_
      have hd : decode code 32 = .ok (.tableswitch 751 0 22 #[108, 141, 194, 207, 250, 283, 306, 319, 342, 367, 380, 419, 432, 445, 458, 491, 534, 567, 600, 623, 656, 679, 728], 108) := by decide +kernel
      obtain ⟨v0, v1⟩ := law_sel (xs i)
      obtain ⟨z, hz⟩ : ∃ z, z = (xs i &&& 31).toInt := ⟨_, rfl⟩
      rw [← hz] at v0 v1
      by_cases h22 : 22 < z
      · refine lv_tableOut (tgt := 783) hx hcd hd (Or.inr (by omega)) (by decide) ?_
        exact loop μ B R H locs ls hw hS hls
      · rcases (show z = 0 ∨ z = 1 ∨ z = 2 ∨ z = 3 ∨ z = 4 ∨ z = 5 ∨ z = 6 ∨ z = 7 ∨ z = 8 ∨ z = 9 ∨ z = 10 ∨ z = 11 ∨ z = 12 ∨ z = 13 ∨ z = 14 ∨ z = 15 ∨ z = 16 ∨ z = 17 ∨ z = 18 ∨ z = 19 ∨ z = 20 ∨ z = 21 ∨ z = 22 by omega) with h | h | h | h | h | h | h | h | h | h | h | h | h | h | h | h | h | h | h | h | h | h | h
        · exact lv_tableIn (off := 108) (tgt := 140) hx hcd hd (by omega) (by omega) (by rw [← hz, h]; rfl) (by decide) (lc_0 K0 (by omega) B R loop H locs ls hw hS hls)
        · exact lv_tableIn (off := 141) (tgt := 173) hx hcd hd (by omega) (by omega) (by rw [← hz, h]; rfl) (by decide) (lc_1 K0 (by omega) B R loop H locs ls hw hS hls)
        · exact lv_tableIn (off := 194) (tgt := 226) hx hcd hd (by omega) (by omega) (by rw [← hz, h]; rfl) (by decide) (lc_2 K0 (by omega) B R loop H locs ls hw hS hls)
        · exact lv_tableIn (off := 207) (tgt := 239) hx hcd hd (by omega) (by omega) (by rw [← hz, h]; rfl) (by decide) (lc_3 K0 (by omega) B R loop H locs ls hw hS hls)
        · exact lv_tableIn (off := 250) (tgt := 282) hx hcd hd (by omega) (by omega) (by rw [← hz, h]; rfl) (by decide) (lc_4 K0 (by omega) B R loop H locs ls hw hS hls)
        · exact lv_tableIn (off := 283) (tgt := 315) hx hcd hd (by omega) (by omega) (by rw [← hz, h]; rfl) (by decide) (lc_5 K0 (by omega) B R loop H locs ls hw hS hls)
        · exact lv_tableIn (off := 306) (tgt := 338) hx hcd hd (by omega) (by omega) (by rw [← hz, h]; rfl) (by decide) (lc_6 K0 (by omega) B R loop H locs ls hw hS hls)
        · exact lv_tableIn (off := 319) (tgt := 351) hx hcd hd (by omega) (by omega) (by rw [← hz, h]; rfl) (by decide) (lc_7 K0 (by omega) B R loop H locs ls hw hS hls)
        · exact lv_tableIn (off := 342) (tgt := 374) hx hcd hd (by omega) (by omega) (by rw [← hz, h]; rfl) (by decide) (lc_8 K0 (by omega) B R loop H locs ls hw hS hls)
        · exact lv_tableIn (off := 367) (tgt := 399) hx hcd hd (by omega) (by omega) (by rw [← hz, h]; rfl) (by decide) (lc_9 K0 (by omega) B R loop H locs ls hw hS hls)
        · exact lv_tableIn (off := 380) (tgt := 412) hx hcd hd (by omega) (by omega) (by rw [← hz, h]; rfl) (by decide) (lc_10 K0 (by omega) B R loop H locs ls hw hS hls)
        · exact lv_tableIn (off := 419) (tgt := 451) hx hcd hd (by omega) (by omega) (by rw [← hz, h]; rfl) (by decide) (lc_11 K0 (by omega) B R loop H locs ls hw hS hls)
        · exact lv_tableIn (off := 432) (tgt := 464) hx hcd hd (by omega) (by omega) (by rw [← hz, h]; rfl) (by decide) (lc_12 K0 (by omega) B R loop H locs ls hw hS hls)
        · exact lv_tableIn (off := 445) (tgt := 477) hx hcd hd (by omega) (by omega) (by rw [← hz, h]; rfl) (by decide) (lc_13 K0 (by omega) B R loop H locs ls hw hS hls)
        · exact lv_tableIn (off := 458) (tgt := 490) hx hcd hd (by omega) (by omega) (by rw [← hz, h]; rfl) (by decide) (lc_14 K0 (by omega) B R loop H locs ls hw hS hls)
        · exact lv_tableIn (off := 491) (tgt := 523) hx hcd hd (by omega) (by omega) (by rw [← hz, h]; rfl) (by decide) (lc_15 K0 (by omega) B R loop H locs ls hw hS hls)
        · exact lv_tableIn (off := 534) (tgt := 566) hx hcd hd (by omega) (by omega) (by rw [← hz, h]; rfl) (by decide) (lc_16 K0 (by omega) B R loop H locs ls hw hS hls)
        · exact lv_tableIn (off := 567) (tgt := 599) hx hcd hd (by omega) (by omega) (by rw [← hz, h]; rfl) (by decide) (lc_17 K0 (by omega) B R loop H locs ls hw hS hls)
        · exact lv_tableIn (off := 600) (tgt := 632) hx hcd hd (by omega) (by omega) (by rw [← hz, h]; rfl) (by decide) (lc_18 K0 (by omega) B R loop H locs ls hw hS hls)
        · exact lv_tableIn (off := 623) (tgt := 655) hx hcd hd (by omega) (by omega) (by rw [← hz, h]; rfl) (by decide) (lc_19 K0 (by omega) B R loop H locs ls hw hS hls)
        · exact lv_tableIn (off := 656) (tgt := 688) hx hcd hd (by omega) (by omega) (by rw [← hz, h]; rfl) (by decide) (lc_20 K0 (by omega) B R loop H locs ls hw hS hls)
        · exact lv_tableIn (off := 679) (tgt := 711) hx hcd hd (by omega) (by omega) (by rw [← hz, h]; rfl) (by decide) (lc_21 K0 (by omega) B R loop H locs ls hw hS hls)
        · exact lv_tableIn (off := 728) (tgt := 760) hx hcd hd (by omega) (by omega) (by rw [← hz, h]; rfl) (by decide) (lc_22 K0 (by omega) B R loop H locs ls hw hS hls)
end LAW
