/-! what holds of one state: sums of ties and holes, blanks, the longest and the shortest -/
section EQ
variable {μ ν : zM}
theorem lp_sm {F : Nat → Int → Int → Int} {g : Int → Int} {B : Int} (hF : ∀ f a l, 0 ≤ l → F (f + 1) a l = if l < B then F f (a + g l) (l + 1) else a) : ∀ (f : Nat) (a l : Int), 0 ≤ l → l ≤ B → B - l < f → F f a l + sm g l.toNat = a + sm g B.toNat := by
  intro f
  induction f with
  | zero => intro a l l0 l1 hf; omega
  | succ f ih =>
    intro a l l0 l1 hf
    rw [hF f a l l0]
    by_cases h : l < B
    · have s := ih (a + g l) (l + 1) (by omega) (by omega) (by omega)
      rw [show (l + 1).toNat = l.toNat + 1 by omega, sm_succ, show ((l.toNat : Nat) : Int) = l by omega] at s
      rw [if_pos h]; omega
    · rw [if_neg h, show l = B by omega]
theorem lp_sm0 {F : Nat → Int → Int → Int} {g : Int → Int} {B : Int} (hF : ∀ f a l, 0 ≤ l → F (f + 1) a l = if l < B then F f (a + g l) (l + 1) else a) {f : Nat} {a : Int} (hB : 0 ≤ B) (hf : B < f) : F f a 0 = a + sm g B.toNat := by
  have s := lp_sm hF f a 0 (by omega) hB (by omega)
  rw [show (0 : Int).toNat = 0 from rfl, show sm g 0 = 0 from rfl] at s
  omega
theorem hot_sm0 (N : NR μ ν) (t : Int) : xx_holesOfTie μ t 0 = sm (fun h => if μ 16 h = t then 1 else 0) (μ 10 1).toNat := by
  have hob := N.hob
  have hN := zN_big
  have s := lp_sm0 (F := fun f a l => xx_holesOfTie_5 f μ t 0 a l) (g := fun h => if μ 16 h = t then 1 else 0) (B := μ 10 1) (fun f a l l0 => by
    rw [xx_holesOfTie_5]
    by_cases h : l < μ 10 1
    · rw [if_pos h, if_pos h, at_tieOf N l0 h, if_pos rfl]
      by_cases q : μ 16 l = t
      · rw [if_pos q, if_pos q]
      · rw [if_neg q, if_neg q, Int.add_zero]
    · rw [if_neg h, if_neg h]) (f := zN) (a := 0) hob.1 (by omega)
  show xx_holesOfTie_5 zN μ t 0 0 0 = _
  omega
theorem hot_sm1 (N : NR μ ν) (t : Int) : xx_holesOfTie μ t 1 = sm (fun h => if μ 16 h = t then (if μ 18 h = -1 then 1 else 0) else 0) (μ 10 1).toNat := by
  have hob := N.hob
  have hN := zN_big
  have s := lp_sm0 (F := fun f a l => xx_holesOfTie_5 f μ t 1 a l) (g := fun h => if μ 16 h = t then (if μ 18 h = -1 then 1 else 0) else 0) (B := μ 10 1) (fun f a l l0 => by
    rw [xx_holesOfTie_5]
    by_cases h : l < μ 10 1
    · rw [if_pos h, if_pos h, at_tieOf N l0 h, if_neg n10']
      by_cases q : μ 16 l = t
      · rw [if_pos q, if_pos q]
        unfold xx_isEmptyHole
        rw [at_wordIn N l0 h]
        by_cases q2 : μ 18 l = -1
        · rw [if_pos q2, if_neg n10']
        · rw [if_neg q2, if_pos rfl, Int.add_zero]
      · rw [if_neg q, if_neg q, Int.add_zero]
    · rw [if_neg h, if_neg h]) (f := zN) (a := 0) hob.1 (by omega)
  show xx_holesOfTie_5 zN μ t 1 0 0 = _
  omega
theorem lih_sm (N : NR μ ν) : xx_lettersInHoles μ = sm (fun h => xx_lettersIn μ h) (μ 10 1).toNat := by
  have hob := N.hob
  have hN := zN_big
  have s := lp_sm0 (F := fun f a l => xx_lettersInHoles_4 f μ a l) (g := fun h => xx_lettersIn μ h) (B := μ 10 1) (fun f a l l0 => by
    rw [xx_lettersInHoles_4]) (f := zN) (a := 0) hob.1 (by omega)
  show xx_lettersInHoles_4 zN μ 0 0 = _
  omega
theorem len_sm (N : NR μ ν) : xx_lengthTold μ = zmax 0 (μ 10 0 - 1) + sm (fun i => xx_lengthOfItem μ i) (μ 10 0).toNat := by
  have hob := N.itb
  have hN := zN_big
  exact lp_sm0 (F := fun f a l => xx_lengthTold_16 f μ a l) (g := fun h => xx_lengthOfItem μ h) (B := μ 10 0) (fun f a l l0 => by
    rw [xx_lengthTold_16]) (f := zN) hob.1 (by omega)
theorem sm_le {g h : Int → Int} : ∀ {n : Nat}, (∀ k : Int, 0 ≤ k → k < n → g k ≤ h k) → sm g n ≤ sm h n
  | 0, _ => Int.le_refl _
  | n + 1, e => by
    have ih := sm_le (g := g) (h := h) (n := n) (fun k k0 k1 => e k k0 (by omega))
    have := e n (by omega) (by omega)
    rw [sm_succ, sm_succ]; omega
theorem sm_one {a v : Int} (h0 : 0 ≤ a) (h1 : a ≤ 9) : sm (fun t => if a = t then v else 0) 10 = v := by
  simp only [sm]
  rcases (show a = 0 ∨ a = 1 ∨ a = 2 ∨ a = 3 ∨ a = 4 ∨ a = 5 ∨ a = 6 ∨ a = 7 ∨ a = 8 ∨ a = 9 by omega) with q | q | q | q | q | q | q | q | q | q <;> subst q <;> simp
/-- each hole counts under one tie -/
theorem sm_ties {f v : Int → Int} : ∀ {n : Nat}, (∀ h : Int, 0 ≤ h → h < n → 0 ≤ f h ∧ f h ≤ 9) → sm (fun t => sm (fun h => if f h = t then v h else 0) n) 10 = sm v n
  | 0, _ => by simp [sm]
  | n + 1, e => by
    have ih := sm_ties (f := f) (v := v) (n := n) (fun h h0 h1 => e h h0 (by omega))
    have o := e n (by omega) (by omega)
    have s := sm_add (fun t => sm (fun h => if f h = t then v h else 0) n) (fun t => if f n = t then v n else 0) 10
    rw [ih, sm_one o.1 o.2] at s
    rw [sm_succ v n]
    exact s
theorem tie3_eq (μ : zM) {t : Int} (t0 : 0 ≤ t) (t1 : t ≤ 9) : xx_tie μ t 3 = xx_holesOfTie μ t 0 := by
  unfold xx_tie
  rw [ib_1 t0 (show t < 10 by omega)]; rfl
theorem tie4_eq (μ : zM) {t : Int} (t0 : 0 ≤ t) (t1 : t ≤ 9) : xx_tie μ t 4 = xx_holesOfTie μ t 1 := by
  unfold xx_tie
  rw [ib_1 t0 (show t < 10 by omega)]; rfl
theorem tie5_eq (μ : zM) {t : Int} (t0 : 0 ≤ t) (t1 : t ≤ 9) : xx_tie μ t 5 = if xx_nounIn μ t (-1) = -1 then 0 else 1 := by
  unfold xx_tie
  rw [ib_1 t0 (show t < 10 by omega)]; rfl
theorem tie2_eq (μ : zM) {t : Int} (t0 : 0 ≤ t) (t1 : t ≤ 9) : xx_tie μ t 2 = xx_genderOfTie μ t := by
  unfold xx_tie
  rw [ib_1 t0 (show t < 10 by omega)]; rfl
theorem w_ties3 (N : NR μ ν) : sm (fun t => xx_tie μ t 3) 10 = xx_count μ 2 := by
  have e : sm (fun t => xx_tie μ t 3) 10 = sm (fun t => sm (fun h => if μ 16 h = t then 1 else 0) (μ 10 1).toNat) 10 := sm_cong (fun t t0 t1 => by
    unfold xx_tie
    rw [ib_1 t0 (show t < 10 by omega), if_neg n10', if_neg (by decide), if_neg (by decide), if_neg (by decide), if_pos rfl, hot_sm0 N])
  have hob := N.hob
  rw [e, sm_ties (f := fun h => μ 16 h) (v := fun _ => 1) (n := (μ 10 1).toNat) (fun h h0 h1 => (N.hl h0 (by omega)).2.2.2.2.2.1)]
  have z : ∀ m : Nat, sm (fun _ => 1) m = m := by
    intro m
    induction m with
    | zero => rfl
    | succ m ih => rw [sm_succ, ih]; omega
  rw [z]
  unfold xx_count
  rw [if_neg (by decide), if_neg (by decide), if_pos rfl]
  omega
theorem w_ties4 (N : NR μ ν) : sm (fun t => xx_tie μ t 4) 10 = xx_count μ 3 := by
  have e : sm (fun t => xx_tie μ t 4) 10 = sm (fun t => sm (fun h => if μ 16 h = t then (if μ 18 h = -1 then 1 else 0) else 0) (μ 10 1).toNat) 10 := sm_cong (fun t t0 t1 => by
    unfold xx_tie
    rw [ib_1 t0 (show t < 10 by omega), if_neg n10', if_neg (by decide), if_neg (by decide), if_neg (by decide), if_neg (by decide), if_pos rfl, hot_sm1 N])
  have hob := N.hob
  rw [e, sm_ties (f := fun h => μ 16 h) (v := fun h => if μ 18 h = -1 then 1 else 0) (n := (μ 10 1).toNat) (fun h h0 h1 => (N.hl h0 (by omega)).2.2.2.2.2.1)]
  unfold xx_count
  rw [if_neg (by decide), if_neg (by decide), if_neg (by decide), if_pos rfl, hw_sm N]
theorem w_ties6 (μ : zM) : sm (fun t => if 0 < xx_tie μ t 3 then 1 else 0) 10 = xx_count μ 6 := by
  have e : sm (fun t => if 0 < xx_tie μ t 3 then 1 else 0) 10 = sm (fun t => if 0 < xx_holesOfTie μ t 0 then 1 else 0) 10 := sm_cong (fun t t0 t1 => by
    rw [tie3_eq μ t0 (by omega)])
  rw [e, ← ties_sm]
  unfold xx_count
  rw [if_neg (by decide), if_neg (by decide), if_neg (by decide), if_neg (by decide), if_neg (by decide), if_neg (by decide), if_pos rfl]
theorem w_tie43 (N : NR μ ν) {t : Int} (t0 : 0 ≤ t) (t1 : t ≤ 9) : xx_tie μ t 4 ≤ xx_tie μ t 3 := by
  rw [tie3_eq μ t0 t1, tie4_eq μ t0 t1, hot_sm0 N, hot_sm1 N]
  refine sm_le (fun h h0 h1 => ?_)
  repeat' split
  all_goals omega
theorem w_tie52 (μ : zM) {t : Int} (t0 : 0 ≤ t) (t1 : t ≤ 9) : xx_tie μ t 5 = 1 ∨ xx_tie μ t 2 = 0 := by
  rw [tie5_eq μ t0 t1, tie2_eq μ t0 t1]
  by_cases q : xx_nounIn μ t (-1) = -1
  · refine Or.inr ?_
    unfold xx_genderOfTie xx_genderOf xx_knows
    rw [q, if_pos (show (-1 : Int) < 0 by decide), if_pos rfl]
  · exact Or.inl (by rw [if_neg q])
/-! the longest is not below the shortest -/
abbrev Lsh (L S : Int) : Prop := (L = -1 ∧ S = -1) ∨ (0 ≤ S ∧ S ≤ L)
theorem ls_better {L S a b : Int} (h : Lsh L S) (h2 : Lsh a b) : Lsh (xx_better L a 1) (xx_better S b 0) := by
  unfold xx_better
  have m1 := zmax_r L a
  have m2 := zmin_r S b
  rcases h with ⟨h1, h3⟩ | ⟨h1, h3⟩
  · rw [if_pos h1, if_pos h3]; exact h2
  · rw [if_neg (show ¬ L = -1 by omega), if_neg (show ¬ S = -1 by omega)]
    rcases h2 with ⟨g1, g2⟩ | ⟨g1, g2⟩
    · rw [if_pos g1, if_pos g2]; exact Or.inr ⟨h1, h3⟩
    · rw [if_neg (show ¬ a = -1 by omega), if_neg (show ¬ b = -1 by omega), if_neg n10', if_pos rfl]
      exact Or.inr (by omega)
theorem len_nn (N : NR μ ν) (w f : Int) : 0 ≤ xx_lengthOf μ w f := by
  have a : 0 ≤ xx_stemLengthOf μ w := by
    unfold xx_stemLengthOf
    by_cases h : xx_knows μ w = 0
    · rw [if_pos h]; omega
    · rw [if_neg h]
      obtain ⟨w0, w1, -⟩ := kn_ok h
      have := (N.wd w0 w1).2.2.2.2
      omega
  have b : 0 ≤ xx_endingLengthOf μ (xx_kindOf μ w) f := by
    unfold xx_endingLengthOf
    repeat' split
    all_goals omega
  unfold xx_lengthOf
  omega
theorem ls_kind (N : NR μ ν) (k g f : Int) : Lsh (xx_lettersKindCould μ k g f 1) (xx_lettersKindCould μ k g f 0) := by
  have hb := N.knb
  have key : ∀ (n : Nat) (L S l : Int), Lsh L S → 0 ≤ l → l ≤ μ 4 0 → μ 4 0 - l < n → Lsh (xx_lettersKindCould_6 n μ k g f 1 L l) (xx_lettersKindCould_6 n μ k g f 0 S l) := by
    intro n
    induction n with
    | zero => intro L S l h l0 l1 hn; omega
    | succ n ih =>
      intro L S l h l0 l1 hn
      rw [xx_lettersKindCould_6, xx_lettersKindCould_6]
      by_cases q : l < μ 4 0
      · have st := ih L S (l + 1) h (by omega) (by omega) (by omega)
        have e := len_nn N l f
        have st2 := ih (xx_better L (xx_lengthOf μ l f) 1) (xx_better S (xx_lengthOf μ l f) 0) (l + 1) (ls_better h (Or.inr ⟨e, Int.le_refl _⟩)) (by omega) (by omega) (by omega)
        rw [if_pos q, if_pos q]
        simp only [n10', if_false, if_true]
        split
        · split
          · split
            · exact st2
            · exact st
          · exact st2
        · exact st
      · rw [if_neg q, if_neg q]; exact h
  have := zN_big
  exact key zN (-1) (-1) 0 (Or.inl ⟨rfl, rfl⟩) (by omega) hb.1 (by omega)
theorem ls_tie (N : NR μ ν) (t g : Int) : Lsh (xx_lettersTieCould μ t g 1) (xx_lettersTieCould μ t g 0) := by
  have hb := N.hob
  have key : ∀ (n : Nat) (L S l : Int), 0 ≤ S → S ≤ L → 0 ≤ l → l ≤ μ 10 1 → μ 10 1 - l < n → Lsh (xx_lettersTieCould_6 n μ t g 1 L l) (xx_lettersTieCould_6 n μ t g 0 S l) := by
    intro n
    induction n with
    | zero => intro L S l h h2 l0 l1 hn; omega
    | succ n ih =>
      intro L S l h h2 l0 l1 hn
      rw [xx_lettersTieCould_6, xx_lettersTieCould_6]
      by_cases q : l < μ 10 1
      · rw [if_pos q, if_pos q]
        by_cases q2 : xx_tieOf μ l = t
        · rw [if_pos q2, if_pos q2]
          have e := ls_kind N (xx_kindOfHole μ l) g (xx_formOf μ (xx_kindOfHole μ l) t g)
          rcases e with ⟨e1, e2⟩ | ⟨e1, e2⟩
          · rw [if_pos e1, if_pos e2]; exact Or.inl ⟨rfl, rfl⟩
          · rw [if_neg (by omega), if_neg (by omega)]
            exact ih _ _ (l + 1) (by omega) (by omega) (by omega) (by omega) (by omega)
        · rw [if_neg q2, if_neg q2]
          exact ih _ _ (l + 1) h h2 (by omega) (by omega) (by omega)
      · rw [if_neg q, if_neg q]; exact Or.inr ⟨h, h2⟩
  have := zN_big
  exact key zN 0 0 0 (by omega) (by omega) (by omega) hb.1 (by omega)
theorem w_could (N : NR μ ν) {t : Int} (t0 : 0 ≤ t) (t1 : t ≤ 9) : (xx_tieCould μ t 1 = -5 ∧ xx_tieCould μ t 0 = -5) ∨ (0 ≤ xx_tieCould μ t 0 ∧ xx_tieCould μ t 0 ≤ xx_tieCould μ t 1) := by
  have key : ∀ (n : Nat) (B L S l : Int), Lsh L S → B ≤ 3 → 0 ≤ l → l ≤ B → B - l < n → (xx_tieCould_37 n μ t 1 B L l = -5 ∧ xx_tieCould_37 n μ t 0 B S l = -5) ∨ (0 ≤ xx_tieCould_37 n μ t 0 B S l ∧ xx_tieCould_37 n μ t 0 B S l ≤ xx_tieCould_37 n μ t 1 B L l) := by
    intro n
    induction n with
    | zero => intro B L S l h hB l0 l1 hn; omega
    | succ n ih =>
      intro B L S l h hB l0 l1 hn
      rw [xx_tieCould_37, xx_tieCould_37]
      by_cases q : l < B
      · rw [if_pos q, if_pos q]
        exact ih B _ _ (l + 1) (ls_better h (ls_tie N t l)) hB (by omega) (by omega) (by omega)
      · rw [if_neg q, if_neg q]
        rcases h with ⟨e1, e2⟩ | ⟨e1, e2⟩
        · rw [if_pos e1, if_pos e2]; exact Or.inl ⟨rfl, rfl⟩
        · rw [if_neg (by omega), if_neg (by omega)]; exact Or.inr ⟨e1, e2⟩
  have := zN_big
  unfold xx_tieCould
  rw [ib_1 t0 (by omega), if_neg n10', if_neg n10']
  by_cases q : xx_hasNounHole μ t = 0
  · rw [if_pos q, if_pos q]; exact key zN 1 (-1) (-1) 0 (Or.inl ⟨rfl, rfl⟩) (by decide) (by decide) (by decide) (by omega)
  · rw [if_neg q, if_neg q]; exact key zN 3 (-1) (-1) 0 (Or.inl ⟨rfl, rfl⟩) (by decide) (by decide) (by decide) (by omega)
/-! a hole and the word in it -/
theorem w_letters (N : NR μ ν) : sm (fun k => xx_hole μ k 4) (μ 10 1).toNat = xx_count μ 5 := by
  have hob := N.hob
  have e : sm (fun k => xx_hole μ k 4) (μ 10 1).toNat = sm (fun h => xx_lettersIn μ h) (μ 10 1).toNat := sm_cong (fun k k0 k1 => by
    unfold xx_hole
    rw [hh_1 N k0 (by omega), if_neg n10', if_neg (by decide), if_neg (by decide), if_neg (by decide), if_neg (by decide), if_pos rfl])
  rw [e, ← lih_sm N]
  unfold xx_count
  rw [if_neg (by decide), if_neg (by decide), if_neg (by decide), if_neg (by decide), if_neg (by decide), if_pos rfl]
theorem at_hole (N : NR μ ν) {k : Int} (k0 : 0 ≤ k) (k1 : k < μ 10 1) : xx_hole μ k 0 = μ 15 k ∧ xx_hole μ k 1 = μ 16 k ∧ xx_hole μ k 2 = (if μ 18 k = -1 then -5 else μ 18 k) ∧ xx_hole μ k 3 = xx_formIn μ k ∧ xx_hole μ k 4 = (if μ 18 k = -1 then 0 else xx_lengthOf μ (μ 18 k) (xx_formIn μ k)) := by
  have e := hh_1 N k0 k1
  refine ⟨?_, ?_, ?_, ?_, ?_⟩
  · unfold xx_hole
    rw [e, if_neg n10', if_pos rfl, at_kindOfHole N k0 k1]
  · unfold xx_hole
    rw [e, if_neg n10', if_neg n10', if_pos rfl, at_tieOf N k0 k1]
  · unfold xx_hole xx_isEmptyHole
    rw [e, if_neg n10', if_neg (by decide), if_neg (by decide), if_pos rfl, at_wordIn N k0 k1]
    by_cases q : μ 18 k = -1
    · rw [if_pos q, if_neg n10', if_pos q]
    · rw [if_neg q, if_pos rfl, if_neg q]
  · unfold xx_hole
    rw [e, if_neg n10', if_neg (by decide), if_neg (by decide), if_neg (by decide), if_pos rfl]
  · unfold xx_hole xx_lettersIn xx_isEmptyHole
    rw [e, if_neg n10', if_neg (by decide), if_neg (by decide), if_neg (by decide), if_neg (by decide), if_pos rfl, at_wordIn N k0 k1]
    by_cases q : μ 18 k = -1
    · rw [if_pos q, if_neg n10', if_pos q]
    · rw [if_neg q, if_pos rfl, if_neg q]
theorem at_tie (N : NR μ ν) {t : Int} (t0 : 0 ≤ t) (t1 : t ≤ 9) : xx_tie μ t 0 = μ 19 t ∧ xx_tie μ t 1 = μ 20 t ∧ xx_tie μ t 2 = xx_genderOfTie μ t := by
  have e := ib_1 t0 (show t < 10 by omega)
  refine ⟨?_, ?_, ?_⟩
  · unfold xx_tie; rw [e, if_neg n10', if_pos rfl]
  · unfold xx_tie; rw [e, if_neg n10', if_neg n10', if_pos rfl]
  · unfold xx_tie; rw [e, if_neg n10', if_neg (by decide), if_neg (by decide), if_pos rfl]
theorem at_word (N : NR μ ν) {w : Int} (w0 : 0 ≤ w) (w1 : w < μ 4 0) : xx_word μ w 0 = μ 5 w ∧ xx_word μ w 1 = μ 6 w ∧ xx_word μ w 2 = μ 7 w := by
  have e := kn_1 N w0 w1
  refine ⟨?_, ?_, ?_⟩
  · unfold xx_word; rw [e, if_neg n10', if_pos rfl, at_kindOf N w0 w1]
  · unfold xx_word; rw [e, if_neg n10', if_neg n10', if_pos rfl, at_genderOf N w0 w1]
  · unfold xx_word xx_stemLengthOf; rw [e, if_neg n10', if_neg (by decide), if_neg (by decide), if_pos rfl, if_neg n10']
/-- the gender of a tie is that of a noun in its holes -/
theorem w_gender (N : NR μ ν) {k : Int} (k0 : 0 ≤ k) (k1 : k < μ 10 1) (kk : μ 15 k = 0) (kf : μ 18 k ≠ -1) : xx_genderOfTie μ (μ 16 k) = μ 6 (μ 18 k) := by
  unfold xx_genderOfTie
  rcases ni_spec N (μ 16 k) (-1) with ⟨e, f⟩ | ⟨g, g0, g1, ⟨g2, g3, g4, g5⟩, g6⟩
  · exact absurd ⟨rfl, kk, by omega, kf⟩ (f k k0 k1)
  · have hg := (N.hl g0 g1).2.2.2.2.2.2
    rw [g6, at_genderOf N (w := μ 18 g) (by omega) (by omega)]
    exact N.gd g0 g1 k0 k1 g3 kk g2 g5 kf
theorem w_gr (B : zB μ) (N : NR μ ν) (t : Int) : 0 ≤ xx_genderOfTie μ t ∧ xx_genderOfTie μ t ≤ 2 := by
  unfold xx_genderOfTie xx_genderOf
  by_cases h : xx_knows μ (xx_nounIn μ t (-1)) = 0
  · rw [if_pos h]; omega
  · rw [if_neg h]; exact B 6 _
theorem w_form (B : zB μ) (N : NR μ ν) {k : Int} (k0 : 0 ≤ k) (k1 : k < μ 10 1) : (μ 15 k = 0 ∧ xx_formIn μ k = μ 19 (μ 16 k)) ∨ (μ 15 k = 1 ∧ xx_formIn μ k = 3 * μ 19 (μ 16 k) + μ 20 (μ 16 k)) ∨ (μ 15 k = 2 ∧ xx_formIn μ k = 3 * μ 19 (μ 16 k) + xx_genderOfTie μ (μ 16 k)) := by
  have hk := N.hl k0 k1
  unfold xx_formIn xx_formOf
  rw [at_tieOf N k0 k1, at_kindOfHole N k0 k1, ib_1 hk.2.2.2.2.2.1.1 (by omega), if_neg n10']
  rcases (show μ 15 k = 0 ∨ μ 15 k = 1 ∨ μ 15 k = 2 by omega) with q | q | q
  · exact Or.inl ⟨q, by rw [if_pos q]⟩
  · exact Or.inr (Or.inl ⟨q, by rw [if_neg (by omega), if_pos q]⟩)
  · exact Or.inr (Or.inr ⟨q, by rw [if_neg (by omega), if_neg (by omega)]⟩)
theorem w_len (N : NR μ ν) {w f : Int} (w0 : 0 ≤ w) (w1 : w < μ 4 0) : μ 7 w ≤ xx_lengthOf μ w f ∧ xx_lengthOf μ w f ≤ μ 7 w + 2 := by
  have b : 0 ≤ xx_endingLengthOf μ (xx_kindOf μ w) f ∧ xx_endingLengthOf μ (xx_kindOf μ w) f ≤ 2 := by
    unfold xx_endingLengthOf
    repeat' split
    all_goals omega
  unfold xx_lengthOf xx_stemLengthOf
  rw [kn_1 N w0 w1, if_neg n10']
  omega
theorem w_letter1 (N : NR μ ν) {w f : Int} (w0 : 0 ≤ w) (w1 : w < μ 4 0) (f0 : 0 ≤ f) (f1 : f < 6) : 0 < xx_letter μ w f (xx_lengthOf μ w f - 1) ∧ xx_letter μ w f (xx_lengthOf μ w f - 1) ≤ 26 ∧ xx_letter μ w f (xx_lengthOf μ w f) = -5 := by
  have hw := N.wd w0 w1
  have hl := w_len N (f := f) w0 w1
  have a := lt_in N (f := f) (p := xx_lengthOf μ w f - 1) w0 w1 (by omega) (by omega)
  have b := lt_end N (f := f) w0 w1
  have e1 : xx_letter μ w f (xx_lengthOf μ w f - 1) = xx_letterAt μ w f (xx_lengthOf μ w f - 1) := by
    unfold xx_letter
    rw [kn_1 N w0 w1, if_neg n10', ib_1 f0 f1, if_neg n10', if_neg (by omega), if_neg (by omega)]
  have e2 : xx_letter μ w f (xx_lengthOf μ w f) = -5 := by
    unfold xx_letter
    rw [kn_1 N w0 w1, if_neg n10', ib_1 f0 f1, if_neg n10', if_neg (by omega), if_pos b]
  rw [e1, e2]
  omega
/-! blanks and ends of what is told -/
theorem loi_b (B : zB μ) (N : NR μ ν) {i : Int} (i0 : 0 ≤ i) (i1 : i < μ 10 0) : 1 ≤ xx_lengthOfItem μ i ∧ xx_lengthOfItem μ i ≤ 10 := by
  unfold xx_lengthOfItem
  rw [at_holeOfItem N i0 i1]
  by_cases h : μ 11 i = -1
  · rw [if_pos h]
    unfold xx_plainLengthOf
    rw [hi_1 N i0 i1, if_neg n10']
    exact (N.pl i0 i1 h).2.2.1
  · rw [if_neg h]
    have hh : 0 ≤ μ 11 i ∧ μ 11 i < μ 10 1 := by have := (N.ih i0 i1).2; omega
    by_cases he : xx_isEmptyHole μ (μ 11 i) = 0
    · rw [if_pos he]
      obtain ⟨-, w0, w1, -⟩ := at_filled N hh.1 hh.2 he
      rw [at_wordIn N hh.1 hh.2]
      have a := w_len N (f := xx_formIn μ (μ 11 i)) w0 w1
      have b := N.wd w0 w1
      omega
    · rw [if_neg he]; omega
theorem sm_app (g : Int → Int) (a : Nat) : ∀ b : Nat, sm g (a + b) = sm g a + sm (fun k => g (a + k)) b
  | 0 => by simp [sm]
  | b + 1 => by
    rw [show a + (b + 1) = (a + b) + 1 by omega, sm_succ, sm_succ, sm_app g a b]
    rw [show (((a + b : Nat) : Int)) = (a : Int) + (b : Int) by omega]
    omega
theorem sm_zero {g : Int → Int} : ∀ {n : Nat}, (∀ k : Int, 0 ≤ k → k < n → g k = 0) → sm g n = 0
  | 0, _ => rfl
  | n + 1, e => by
    rw [sm_succ, sm_zero (n := n) (fun k k0 k1 => e k k0 (by omega)), e n (by omega) (by omega)]; rfl
/-- what is told from an item on: its blanks, its end -/
theorem told_from (B : zB μ) (N : NR μ ν) : ∀ (d : Nat) (i : Int) (f : Nat), 0 ≤ i → i + d + 1 = μ 10 0 → d + 1 < f → ∃ T : Nat, (T : Int) = sm (fun j => xx_lengthOfItem μ j) (μ 10 0).toNat - sm (fun j => xx_lengthOfItem μ j) i.toNat + d ∧ sm (fun r => if xx_signToldAt_4 f μ r i = 32 then 1 else 0) T = d ∧ xx_signToldAt_4 f μ (T : Int) i = -5 := by
  intro d
  induction d with
  | zero =>
    intro i f i0 hi hf
    obtain ⟨f, rfl⟩ : ∃ g, f = g + 1 := ⟨f - 1, by omega⟩
    have i1 : i < μ 10 0 := by omega
    have lb := loi_b B N i0 i1
    refine ⟨(xx_lengthOfItem μ i).toNat, ?_, ?_, ?_⟩
    · rw [show (μ 10 0).toNat = i.toNat + 1 by omega, sm_succ, show ((i.toNat : Nat) : Int) = i by omega]
      omega
    · rw [sm_zero (fun r r0 r1 => ?_)]
      · rfl
      · have er : xx_signToldAt_4 (f + 1) μ r i = xx_signOfItem μ i r := by rw [xx_signToldAt_4, if_pos i1, if_pos (by omega)]
        rw [er, if_neg (al_signOfItem N i0 i1 r0 (by omega)).2]
    · rw [xx_signToldAt_4, if_pos i1, if_neg (by omega), if_pos (by omega), if_neg (by omega)]
  | succ d ih =>
    intro i f i0 hi hf
    obtain ⟨f, rfl⟩ : ∃ g, f = g + 1 := ⟨f - 1, by omega⟩
    have i1 : i < μ 10 0 := by omega
    have lb := loi_b B N i0 i1
    obtain ⟨T, t1, t2, t3⟩ := ih (i + 1) f (by omega) (by omega) (by omega)
    have nx : ∀ k : Int, 0 ≤ k → xx_signToldAt_4 (f + 1) μ (xx_lengthOfItem μ i + 1 + k) i = xx_signToldAt_4 f μ k (i + 1) := by
      intro k k0
      rw [xx_signToldAt_4, if_pos i1, if_neg (by omega), if_neg (by omega), show xx_lengthOfItem μ i + 1 + k - (xx_lengthOfItem μ i + 1) = k by omega]
    refine ⟨(xx_lengthOfItem μ i).toNat + 1 + T, ?_, ?_, ?_⟩
    · rw [show (i + 1).toNat = i.toNat + 1 by omega, sm_succ, show ((i.toNat : Nat) : Int) = i by omega] at t1
      omega
    · rw [sm_app, sm_succ, sm_zero (fun r r0 r1 => ?_)]
      · rw [sm_cong (h := fun r => if xx_signToldAt_4 f μ r (i + 1) = 32 then 1 else 0) (fun r r0 r1 => ?_), t2]
        · have e32 : xx_signToldAt_4 (f + 1) μ (xx_lengthOfItem μ i) i = 32 := by rw [xx_signToldAt_4, if_pos i1, if_neg (by omega), if_pos rfl, if_pos (by omega)]
          rw [show (((xx_lengthOfItem μ i).toNat : Nat) : Int) = xx_lengthOfItem μ i by omega, e32, if_pos rfl]
          omega
        · rw [show (((xx_lengthOfItem μ i).toNat + 1 : Nat) : Int) + r = xx_lengthOfItem μ i + 1 + r by omega, nx r r0]
      · have er : xx_signToldAt_4 (f + 1) μ r i = xx_signOfItem μ i r := by rw [xx_signToldAt_4, if_pos i1, if_pos (by omega)]
        rw [er, if_neg (al_signOfItem N i0 i1 r0 (by omega)).2]
    · rw [show (((xx_lengthOfItem μ i).toNat + 1 + T : Nat) : Int) = xx_lengthOfItem μ i + 1 + (T : Int) by omega, nx _ (by omega)]
      exact t3
theorem at_count4 (μ : zM) : xx_count μ 4 = xx_lengthTold μ := by
  unfold xx_count
  rw [if_neg (by decide), if_neg (by decide), if_neg (by decide), if_neg (by decide), if_pos rfl]
theorem len_b (B : zB μ) (N : NR μ ν) : 0 ≤ xx_lengthTold μ ∧ xx_lengthTold μ ≤ 220 := by
  have itb := N.itb
  rw [len_sm N]
  have m := zmax_r 0 (μ 10 0 - 1)
  have g : ∀ n : Nat, (n : Int) ≤ μ 10 0 → 0 ≤ sm (fun i => xx_lengthOfItem μ i) n ∧ sm (fun i => xx_lengthOfItem μ i) n ≤ 10 * n := by
    intro n
    induction n with
    | zero => intro _; exact ⟨by simp [sm], by simp [sm]⟩
    | succ n ih =>
      intro hn
      have a := ih (by omega)
      have b := loi_b B N (i := (n : Int)) (by omega) (by omega)
      rw [sm_succ]; omega
  have := g (μ 10 0).toNat (by omega)
  omega
theorem w_blanks (B : zB μ) (N : NR μ ν) : sm (fun k => if xx_told μ k = 32 then 1 else 0) (xx_count μ 4).toNat = (if xx_count μ 1 = 0 then 0 else xx_count μ 1 - 1) ∧ xx_told μ (xx_count μ 4) = -5 := by
  have itb := N.itb
  have hN := zN_big
  have e1 : xx_count μ 1 = μ 10 0 := by
    unfold xx_count
    rw [if_neg (by decide), if_pos rfl]
  have tl : ∀ k : Int, 0 ≤ k → xx_told μ k = xx_signToldAt_4 zN μ k 0 := fun k k0 => by
    unfold xx_told xx_signToldAt
    rw [if_neg (by omega)]
  have lb := len_b B N
  rw [at_count4, e1]
  by_cases q : μ 10 0 = 0
  · have z : xx_lengthTold μ = 0 := by
      rw [len_sm N, q]
      rfl
    rw [z, if_pos q]
    refine ⟨rfl, ?_⟩
    obtain ⟨f, hf⟩ : ∃ g, zN = g + 1 := ⟨zN - 1, by omega⟩
    rw [tl 0 (by decide), hf, xx_signToldAt_4, if_neg (by omega)]
  · obtain ⟨T, t1, t2, t3⟩ := told_from B N (μ 10 0 - 1).toNat 0 zN (by decide) (by omega) (by omega)
    have m := zmax_r 0 (μ 10 0 - 1)
    have eT : (T : Int) = xx_lengthTold μ := by
      rw [len_sm N]
      rw [show (0 : Int).toNat = 0 from rfl, show sm (fun j => xx_lengthOfItem μ j) 0 = 0 from rfl] at t1
      omega
    rw [if_neg q, ← eT]
    refine ⟨?_, ?_⟩
    · rw [show ((T : Int)).toNat = T by omega, sm_cong (h := fun r => if xx_signToldAt_4 zN μ r 0 = 32 then 1 else 0) (fun k k0 k1 => by rw [tl k k0]), t2]
      omega
    · rw [tl _ (by omega)]; exact t3
/-- letters in holes and empty holes are told -/
theorem w_told (B : zB μ) (N : NR μ ν) : xx_count μ 5 + xx_count μ 3 ≤ xx_count μ 4 := by
  have itb := N.itb
  have hob := N.hob
  have e5 : xx_count μ 5 = sm (fun h => xx_lettersIn μ h) (μ 10 1).toNat := by
    rw [← lih_sm N]
    unfold xx_count
    rw [if_neg (by decide), if_neg (by decide), if_neg (by decide), if_neg (by decide), if_neg (by decide), if_pos rfl]
  have e3 : xx_count μ 3 = sm (fun h => if μ 18 h = -1 then 1 else 0) (μ 10 1).toNat := by
    rw [← hw_sm N]
    unfold xx_count
    rw [if_neg (by decide), if_neg (by decide), if_neg (by decide), if_pos rfl]
  rw [e5, e3, at_count4, len_sm N, ← sm_add]
  have m := zmax_r 0 (μ 10 0 - 1)
  obtain ⟨hc, c0, c1, c2⟩ := N.hc
  have key : ∀ n : Nat, (n : Int) ≤ μ 10 0 → 0 ≤ hc n ∧ sm (fun k => xx_lettersIn μ k + (if μ 18 k = -1 then 1 else 0)) (hc n).toNat ≤ sm (fun i => xx_lengthOfItem μ i) n := by
    intro n
    induction n with
    | zero => intro _; rw [show ((0 : Nat) : Int) = 0 from rfl, c0]; exact ⟨by decide, by simp [sm]⟩
    | succ n ih =>
      intro hn
      obtain ⟨a, b⟩ := ih (by omega)
      have n1 : (n : Int) < μ 10 0 := by omega
      obtain ⟨-, g⟩ := c2 n (by omega) n1
      have lb := loi_b B N (i := (n : Int)) (by omega) n1
      rw [sm_succ, show ((n + 1 : Nat) : Int) = (n : Int) + 1 by omega]
      rcases g with ⟨g1, g2⟩ | ⟨g1, g2⟩
      · rw [g2]; exact ⟨a, by omega⟩
      · have hi := (N.ih (i := (n : Int)) (by omega) n1).2
        have hh : 0 ≤ μ 11 n ∧ μ 11 n < μ 10 1 := by omega
        have e : xx_lengthOfItem μ n = xx_lettersIn μ (hc n) + (if μ 18 (hc n) = -1 then 1 else 0) := by
          unfold xx_lengthOfItem xx_lettersIn
          rw [at_holeOfItem N (by omega) n1, if_neg (by omega), ← g1]
          unfold xx_isEmptyHole
          rw [at_wordIn N hh.1 hh.2]
          by_cases q : μ 18 (μ 11 n) = -1
          · rw [if_pos q, if_neg n10', if_neg n10']; rfl
          · rw [if_neg q, if_pos rfl, if_pos rfl, Int.add_zero]
        rw [g2]
        refine ⟨by omega, ?_⟩
        rw [show (hc n + 1).toNat = (hc n).toNat + 1 by omega, sm_succ, show (((hc n).toNat : Nat) : Int) = hc n by omega]
        omega
  obtain ⟨-, k⟩ := key (μ 10 0).toNat (by omega)
  rw [show (((μ 10 0).toNat : Nat) : Int) = μ 10 0 by omega, c1] at k
  omega
end EQ
