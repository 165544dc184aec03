/-! the law's entry: the machine's words, the first memory -/
def md_law : zD := (x, code, 5, ret, room_1, 6)
theorem tab_tbl {w : Cond} (h : w ∈ tables_1) : w ∈ lw_tbl := List.mem_append_right _ h
theorem law_known {s : State} {A : Array Value} (hts : ∀ w ∈ wz, w.before A s = true) (ci : Nat) (r : vw_C) (h : vwCl[ci]? = some r) : ∃ (cC : ClassId) (iS : Nat → Nat), u_Kn s r.1 r.2.1 r.2.2 cC iS := by
  have hl := zlays h
  match ci, h with
  | 0, h => cases h; exact u_known hts hl (hts _ zy_inst_0)
  | 1, h => cases h; exact u_known hts hl (hts _ zy_inst_1)
  | 2, h => cases h; exact u_known hts hl (hts _ zy_inst_2)
  | 3, h => cases h; exact u_known hts hl (hts _ zy_inst_3)
  | 4, h => cases h; exact u_known hts hl (hts _ zy_inst_4)
  | 5, h => cases h; exact u_known hts hl (hts _ zy_inst_5)
  | k + 6, h => simp [vwCl] at h
theorem law_zK {s : State} {A : Array Value} (hts : ∀ w ∈ lw_tbl, w.before A s = true) (n : Nat) : ∃ (D : va_G) (B : Nat → ClassId), B 3 = (0 : Nat) ∧ zK (n, D, B) s := by
  have hz : ∀ w ∈ wz, w.before A s = true := fun w h => hts w (wz_tbl h)
  have hk : ∀ ci : Nat, ∃ q : ClassId × (Nat → Nat), ∀ r, vwCl[ci]? = some r → u_Kn s r.1 r.2.1 r.2.2 q.1 q.2 := by
    intro ci
    cases h : vwCl[ci]? with
    | none => exact ⟨(0, fun _ => 0), fun r hr => by cases hr⟩
    | some r =>
      obtain ⟨cC, iS, q⟩ := law_known hz ci r h
      exact ⟨(cC, iS), fun r' hr => by cases hr; exact q⟩
  obtain ⟨f, hf⟩ := Classical.axiomOfChoice hk
  obtain ⟨cI, kI, mI, i1, i2, i3⟩ := Cond.arrayClass_spec (hz _ zy_aI)
  obtain ⟨cC, kC, mC, c1, c2, c3⟩ := Cond.arrayClass_spec (hz _ zy_aC)
  have hao : (Cond.arrayOver (.object "TaleHoles$State")).before A s = true := hts _ (tab_tbl zw_ao)
  obtain ⟨mS, cS, kS, s1, s2, s3, s4, s5⟩ := Cond.arrayOver_spec hao
  refine ⟨(fun k => (f k).1, fun k => (f k).2), fun t => match t with | 0 => cI | 1 => cC | 2 => cS | _ => (0 : Nat), rfl, ⟨fun ci r h => hf ci r h, fun k q h => ?_⟩, fun w hw => ?_, va_AO.of hao⟩
  · match k, h with
    | 0, h => cases h; exact ⟨fun n z => ⟨fun k h => (by cases h), kI, i2, mI, i3⟩, i1⟩
    | 1, h => cases h; exact ⟨fun n z => ⟨fun k h => (by cases h), kC, c2, mC, c3⟩, c1⟩
    | 2, h => cases h; exact ⟨fun n z => ⟨fun k h => (by cases h), kS, s3, mS, s4⟩, kS, mS, s3, s4, s1, s5⟩
    | k + 3, h => simp [zTy] at h
  · have h1 := List.mem_filter.mp hw
    have h2 : wN w = true := h1.2
    refine va_Nw.of ?_ (hts w (tab_tbl h1.1))
    cases w <;> first | rfl | (simp [wN] at h2; done)
/-! the first memory -/
def μ0 : zM := zc_HistM (fun _ _ => 0) 40
theorem μ0_ne {k : Nat} (h : k ≠ 40) : μ0 k = fun _ => 0 := zc_HistM_ne h
theorem zOkA0 (o : Nat) (z : Int) : zOkA o z 0 := by unfold zOkA; split <;> simp
theorem zOkS0 (o : Nat) (z : Int) : zOkS o z 0 := by unfold zOkS; split <;> simp
theorem zOkR0 (z : Int) : zOkR z 0 := by unfold zOkR; simp
theorem zOkM0 (o : Nat) (z : Int) : zOkM o z 0 := by unfold zOkM; split <;> first | exact zOkR0 _ | simp
theorem zB_zero : zB (fun _ _ => 0) := by
  intro k z
  show zOk k z 0
  unfold zOk
  by_cases h1 : k < 3
  · rw [if_pos h1]; exact zOkA0 _ _
  · rw [if_neg h1]
    by_cases h2 : k < 39
    · rw [if_pos h2]; exact zOkS0 _ _
    · rw [if_neg h2]
      by_cases h3 : k < 41
      · rw [if_pos h3]; exact zOkA0 _ _
      · rw [if_neg h3]
        by_cases h4 : k < 113
        · rw [if_pos h4]; exact zOkS0 _ _
        · rw [if_neg h4]; exact zOkM0 _ _
theorem zB_μ0 : zB μ0 := by
  unfold μ0 zc_HistM zc_HistM3 zc_HistM2 zc_HistM1
  exact zup_ok (k := 40) (z := 3) (v := ((40 + 55 : Nat) : Int)) (zup_ok (k := 40) (z := 2) (v := ((40 + 37 : Nat) : Int)) (zup_ok (k := 40) (z := 1) (v := ((40 + 19 : Nat) : Int)) (zup_ok (k := 40) (z := 0) (v := ((40 + 1 : Nat) : Int)) zB_zero (show (0 : Int) ≤ _ ∧ _ ≤ 95 by decide)) (show (0 : Int) ≤ _ ∧ _ ≤ 95 by decide)) (show (0 : Int) ≤ _ ∧ _ ≤ 95 by decide)) (show (0 : Int) ≤ _ ∧ _ ≤ 95 by decide)
theorem SR_zero : SR (fun _ _ => 0) (fun _ _ => 0) :=
  ⟨⟨rfl, rfl⟩, ⟨rfl, by decide, by decide⟩, fun w h0 h1 => absurd (show w < 0 from h1) (by omega), fun w p h0 h1 => absurd (show w < 0 from h1) (by omega), fun e h0 h1 => ⟨(show (0 : Int) = nx2 0 by decide), Or.inl rfl⟩, ⟨rfl, rfl, ⟨by decide, by decide⟩, ⟨by decide, by decide⟩⟩, ⟨fun _ => 0, rfl, rfl, fun i h0 h1 => absurd (show i < 0 from h1) (by omega)⟩, fun i h0 h1 => absurd (show i < 0 from h1) (by omega), fun i h0 h1 => absurd (show i < 0 from h1) (by omega), fun i g h0 h1 => absurd (show i < 0 from h1) (by omega), fun t h0 h1 => ⟨rfl, rfl, (show (0 : Int) ≤ 0 ∧ (0 : Int) ≤ 1 by decide), (show (0 : Int) ≤ 0 ∧ (0 : Int) ≤ 2 by decide)⟩⟩
theorem R2_μ0 : R2 μ0 μ0 := by
  have e40 : μ0 40 0 = 41 ∧ μ0 40 1 = 59 ∧ μ0 40 2 = 77 ∧ μ0 40 3 = 95 := by
    unfold μ0 zc_HistM zc_HistM3 zc_HistM2 zc_HistM1
    simp only [zup_at]
    decide
  obtain ⟨e0, e1, e2, e3⟩ := e40
  have hp : zperm μ0 := by
    unfold zperm
    rw [e0, e1, e2, e3]
    decide
  have hs : ∀ o, o < 18 → (fun o => μ0 (3 + o)) o = (fun _ _ => (0 : Int)) o := fun o ho => μ0_ne (by omega)
  refine ⟨zB_μ0, zB_μ0, hp, hp, SR.cong SR_zero hs hs, rfl, ?_, rfl, Or.inl ?_⟩
  · rw [μ0_ne (show 39 ≠ 40 by decide)]
    intro j h0 h1
    exact absurd (show j < 0 from h1) (by omega)
  · rw [μ0_ne (show 0 ≠ 40 by decide)]
