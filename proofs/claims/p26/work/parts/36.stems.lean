/-! texts: what is typed; addWord -/
section EQ
variable {μ ν c d M : zM}
theorem c_signAt (h1 : ν 1 = μ 1) (h2 : ν 2 = μ 2) (p : Int) : xx_signAt ν p = xx_signAt μ p := by unfold xx_signAt; rw [h1, h2]
theorem c_letterAt (h1 : ν 1 = μ 1) (h2 : ν 2 = μ 2) (p : Int) : xx_hasLetterAt ν p = xx_hasLetterAt μ p := by unfold xx_hasLetterAt; rw [c_signAt h1 h2]
theorem c_numberAt (h1 : ν 1 = μ 1) (h2 : ν 2 = μ 2) (p : Int) : xx_letterNumberAt ν p = xx_letterNumberAt μ p := by unfold xx_letterNumberAt; rw [c_letterAt h1 h2, c_signAt h1 h2]
theorem e_learn : ∀ (g : Nat) (ν : zM) (l : Int), 0 ≤ l → l ≤ 8 → 8 - l < (g : Int) → (∀ k, k ≠ 8 → k ≠ 4 → (xx_learn_51 g ν l) k = ν k) ∧ (xx_learn_51 g ν l) 4 0 = ν 4 0 + 1 ∧ (∀ p, l ≤ p → p < 8 → (xx_learn_51 g ν l) 8 (ν 4 0 * 8 + p) = xx_letterNumberAt ν p) ∧ (∀ z, z < ν 4 0 * 8 + l → (xx_learn_51 g ν l) 8 z = ν 8 z) := by
  intro g
  induction g with
  | zero => intro ν l h0 h1 hg; omega
  | succ g ih =>
    intro ν l h0 h1 hg
    rw [xx_learn_51]
    by_cases h : l < 8
    · rw [if_pos h]
      obtain ⟨a, b, c, d⟩ := ih (zup ν 8 (ν 4 0 * 8 + l) (xx_letterNumberAt ν l)) (l + 1) (by omega) (by omega) (by omega)
      have e4 : (zup ν 8 (ν 4 0 * 8 + l) (xx_letterNumberAt ν l)) 4 = ν 4 := zup_ne (by decide)
      rw [e4] at b c d
      refine ⟨fun k k1 k2 => (a k k1 k2).trans (zup_ne k1), b, fun p p0 p1 => ?_, fun z z0 => ?_⟩
      · by_cases hp : p = l
        · rw [d _ (by omega), zup_at, if_pos (by omega), hp]
        · rw [c p (by omega) p1, c_numberAt (zup_ne (by decide)) (zup_ne (by decide)) p]
      · rw [d z (by omega), zup_at, if_neg (by omega)]
    · rw [if_neg h]
      exact ⟨fun k k1 k2 => zup_ne k2, zup_self, fun p p0 p1 => by omega, fun z z0 => by rw [zup_ne (by decide)]⟩

theorem ty_eq {n a : Int} (h : M 1 1 = n) (h1 : n < 60) : xx_type M a = (n + 1, zup (zup M 2 n a) 1 1 (n + 1)) := by
  unfold xx_type xx_append
  rw [h, if_pos h1, if_pos h1, zup_self]
theorem cl_eq : xx_clearText M = (M 1 1, zup M 1 1 0) := rfl
theorem text_b (B : zB M) : 0 ≤ M 1 1 ∧ M 1 1 ≤ 60 := B 1 1
/-- a character on each side -/
theorem b_type (R : R2 μ ν) {n a b : Int} (hm : μ 1 1 = n) (hn : ν 1 1 = n) (h1 : n < 60) (ha : 0 ≤ a ∧ a ≤ 65535) (hb : 0 ≤ b ∧ b ≤ 65535) : R2 (xx_type μ a).2 (xx_type ν b).2 := by
  have xb := xb_type R.B a R.P ha
  have xb' := xb_type R.B' b R.P' hb
  rw [ty_eq hm h1] at xb ⊢
  rw [ty_eq hn h1] at xb' ⊢
  exact R.text xb xb' (fun k k1 k2 _ => (zup_ne k1).trans (zup_ne k2)) (fun k k1 k2 _ => (zup_ne k1).trans (zup_ne k2))
theorem b_clear (R : R2 μ ν) : R2 (xx_clearText μ).2 (xx_clearText ν).2 :=
  R.text (xb_clearText R.B R.P) (xb_clearText R.B' R.P') (fun k k1 k2 _ => zup_ne k1) (fun k k1 k2 _ => zup_ne k1)
theorem sg_in {p : Int} (h0 : 0 ≤ p) (h1 : p < M 1 1) : xx_signAt M p = M 2 p := by
  unfold xx_signAt
  rw [ib_1 h0 h1, if_neg n10']
theorem sg_out {p : Int} (h1 : M 1 1 ≤ p) : xx_signAt M p = 0 := by
  unfold xx_signAt
  rw [ib_0 (Or.inr h1), if_pos rfl]
theorem hl_1 {p : Int} (h0 : 97 ≤ xx_signAt M p) (h1 : xx_signAt M p ≤ 122) : xx_hasLetterAt M p = 1 := by
  unfold xx_hasLetterAt
  rw [if_neg (by omega), if_neg (by omega)]
theorem hl_0 {p : Int} (h0 : xx_signAt M p < 97) : xx_hasLetterAt M p = 0 := by
  unfold xx_hasLetterAt
  rw [if_pos h0]
theorem eol {s m lim : Int} (h0 : 0 ≤ m) (hlim : lim ≤ 10) (hl : ∀ p, 0 ≤ p → p < m → xx_hasLetterAt M (s + p) = 1) (he : m = lim ∨ (m < lim ∧ xx_hasLetterAt M (s + m) = 0)) : xx_endOfLetters M s lim = s + m := by
  have key : ∀ (f : Nat) (l : Int), 0 ≤ l → l ≤ m → m - l < f → xx_endOfLetters_2 f M s lim l = s + m := by
    intro f
    induction f with
    | zero => intro l l0 l1 hf; omega
    | succ f ih =>
      intro l l0 l1 hf
      rw [xx_endOfLetters_2]
      by_cases q : l < m
      · rw [if_pos (by omega), hl l l0 q, if_neg n10']
        exact ih (l + 1) (by omega) (by omega) (by omega)
      · obtain rfl : l = m := by omega
        rcases he with e | ⟨e, e2⟩
        · rw [if_neg (by omega)]
        · rw [if_pos e, e2, if_pos rfl]
  have := zN_big
  exact key zN 0 (by omega) h0 (by omega)
/-- the same letters on both sides, each the next one on the second -/
def TW (μ ν : zM) (n : Int) : Prop := μ 1 1 = n ∧ ν 1 1 = n ∧ ∀ p, 0 ≤ p → p < n → 97 ≤ μ 2 p ∧ μ 2 p ≤ 122 ∧ ν 2 p = nsg (μ 2 p)
theorem nsg_r {x : Int} (h0 : 97 ≤ x) (h1 : x ≤ 122) : 97 ≤ nsg x ∧ nsg x ≤ 122 ∧ nsg x - 96 = nxt (x - 96) := by
  have a := nsg_l (l := x - 96) (by omega) (by omega)
  have b := nxt_r (l := x - 96) (by omega) (by omega)
  rw [show 96 + (x - 96) = x by omega] at a
  omega
theorem TW.ty {n a : Int} (T : TW μ ν n) (h1 : n < 60) (h0 : 0 ≤ n) (ha : 97 ≤ a ∧ a ≤ 122) : TW (xx_type μ a).2 (xx_type ν (nsg a)).2 (n + 1) := by
  obtain ⟨t1, t2, t3⟩ := T
  rw [ty_eq t1 h1, ty_eq t2 h1]
  dsimp only
  refine ⟨zup_self, zup_self, fun p p0 p1 => ?_⟩
  rw [zup_ne (show (2 : Nat) ≠ 1 by decide), zup_ne (show (2 : Nat) ≠ 1 by decide), zup_at, zup_at]
  by_cases q : p = n
  · rw [if_pos q, if_pos q]; exact ⟨ha.1, ha.2, rfl⟩
  · rw [if_neg q, if_neg q]; exact t3 p p0 (by omega)
theorem TW.sym {n : Int} (T : TW μ ν n) {p : Int} (p0 : 0 ≤ p) (p1 : p < n) : 97 ≤ ν 2 p ∧ ν 2 p ≤ 122 := by
  obtain ⟨a, b, e⟩ := T.2.2 p p0 p1
  have := nsg_r a b
  rw [e]; omega
theorem st_fault {n : Int} (h0 : 1 ≤ n) (h1 : n ≤ 8) (hn : M 1 1 = n) (hl : ∀ p, 0 ≤ p → p < n → 97 ≤ M 2 p ∧ M 2 p ≤ 122) : xx_faultAsStem M = -1 := by
  have e : xx_endOfLetters M 0 8 = 0 + n := by
    refine eol (by omega) (by decide) (fun p p0 p1 => ?_) ?_
    · rw [Int.zero_add]
      have := hl p p0 p1
      exact hl_1 (by rw [sg_in p0 (by omega)]; exact this.1) (by rw [sg_in p0 (by omega)]; exact this.2)
    · by_cases q : n = 8
      · exact Or.inl q
      · refine Or.inr ⟨by omega, hl_0 ?_⟩
        rw [Int.zero_add, sg_out (by omega)]; decide
  unfold xx_faultAsStem
  rw [e, hn, if_neg (by omega), if_neg (by omega)]
theorem ln_in {n p : Int} (hn : M 1 1 = n) (h0 : 0 ≤ p) (h1 : p < n) (a : 97 ≤ M 2 p) (b : M 2 p ≤ 122) : xx_letterNumberAt M p = M 2 p - 96 := by
  unfold xx_letterNumberAt
  rw [hl_1 (by rw [sg_in h0 (by omega)]; exact a) (by rw [sg_in h0 (by omega)]; exact b), if_neg n10', sg_in h0 (by omega)]
  omega
theorem ln_out {n p : Int} (hn : M 1 1 = n) (h1 : n ≤ p) : xx_letterNumberAt M p = 0 := by
  unfold xx_letterNumberAt
  rw [hl_0 (by rw [sg_out (by omega)]; decide), if_pos rfl]
section SP
variable {α β α' β' : Nat → Int → Int}
/-- one word more -/
theorem SR.words (h : SR α β) (ha : ∀ o, o < 18 → o = 0 ∨ 6 ≤ o → α' o = α o) (hb : ∀ o, o < 18 → o = 0 ∨ 6 ≤ o → β' o = β o) {K k n : Int} {g : Int} (hK : α 1 0 = K) (K1 : K < 24) (e1 : α' 1 0 = K + 1) (f1 : β' 1 0 = K + 1)
    (e2 : ∀ w, α' 2 w = if w = K then k else α 2 w) (f2 : ∀ w, β' 2 w = if w = K then k else β 2 w) (e3 : ∀ w, α' 3 w = if w = K then g else α 3 w) (f3 : ∀ w, β' 3 w = if w = K then g else β 3 w) (e4 : ∀ w, α' 4 w = if w = K then n else α 4 w) (f4 : ∀ w, β' 4 w = if w = K then n else β 4 w)
    (hk : 0 ≤ k ∧ k ≤ 2) (hn : 1 ≤ n ∧ n ≤ 8) (e5 : ∀ z, z < K * 8 → α' 5 z = α 5 z) (f5 : ∀ z, z < K * 8 → β' 5 z = β 5 z) (g5 : ∀ p, 0 ≤ p → p < 8 → β' 5 (K * 8 + p) = nxt (α' 5 (K * 8 + p)) ∧ (p < n → 1 ≤ α' 5 (K * 8 + p) ∧ α' 5 (K * 8 + p) ≤ 26)) : SR α' β' := by
  obtain ⟨s1, s2, s3, s4, s5, s6, s7, s8, s9, s10, s11⟩ := h
  unfold SR
  rw [ha 0 (by decide) (by decide), ha 6 (by decide) (by decide), ha 7 (by decide) (by decide), ha 8 (by decide) (by decide), ha 9 (by decide) (by decide), ha 10 (by decide) (by decide), ha 11 (by decide) (by decide), ha 12 (by decide) (by decide), ha 13 (by decide) (by decide), ha 14 (by decide) (by decide), ha 15 (by decide) (by decide), ha 16 (by decide) (by decide), ha 17 (by decide) (by decide)]
  rw [hb 0 (by decide) (by decide), hb 6 (by decide) (by decide), hb 7 (by decide) (by decide), hb 8 (by decide) (by decide), hb 9 (by decide) (by decide), hb 10 (by decide) (by decide), hb 11 (by decide) (by decide), hb 12 (by decide) (by decide), hb 13 (by decide) (by decide), hb 14 (by decide) (by decide), hb 15 (by decide) (by decide), hb 16 (by decide) (by decide), hb 17 (by decide) (by decide)]
  rw [e1, f1]
  rw [hK] at s2 s3 s4 s9
  have hf : ∀ h, 0 ≤ h → h < α 7 1 → α 15 h ≠ -1 → α' 2 (α 15 h) = α 2 (α 15 h) ∧ α' 3 (α 15 h) = α 3 (α 15 h) := by
    intro h h0 h1 hh
    have := (s9 h h0 h1).2.2.2.2.2.2
    rw [e2, e3, if_neg (by omega), if_neg (by omega)]
    exact ⟨rfl, rfl⟩
  refine ⟨s1, ⟨rfl, by omega, by omega⟩, fun w w0 w1 => ?_, fun w p w0 w1 p0 p1 => ?_, s5, s6, s7, s8, fun h h0 h1 => ?_, fun h g h0 h1 g0 g1 kh kg th fh fg => ?_, s11⟩
  · rw [e2, f2, e3, f3, e4, f4]
    by_cases q : w = K
    · simp only [if_pos q]; exact ⟨trivial, trivial, trivial, hk, hn⟩
    · simp only [if_neg q]; exact s3 w w0 (by omega)
  · rw [e4]
    by_cases q : w = K
    · rw [q, if_pos rfl]; exact g5 p p0 p1
    · rw [if_neg q, e5 _ (by omega), f5 _ (by omega)]; exact s4 w p w0 (by omega) p0 p1
  · obtain ⟨a1, a2, a3, a4, a5, a6, a7⟩ := s9 h h0 h1
    refine ⟨a1, a2, a3, a4, a5, a6, ?_⟩
    rcases a7 with e | ⟨b1, b2, b3⟩
    · exact Or.inl e
    · exact Or.inr ⟨b1, by omega, by rw [(hf h h0 h1 (by omega)).1]; exact b3⟩
  · rw [(hf h h0 h1 fh).2, (hf g g0 g1 fg).2]
    exact s10 h g h0 h1 g0 g1 kh kg th fh fg
end SP
/-- learn, out of its loop -/
theorem le_spec {K n k g : Int} (hK : M 4 0 = K) (K1 : K < 24) (K0 : 0 ≤ K) (hn : M 1 1 = n) (h8 : n ≤ 8) : (xx_learn M k g) 4 0 = K + 1 ∧ (∀ j, j ≠ 4 → j ≠ 5 → j ≠ 6 → j ≠ 7 → j ≠ 8 → (xx_learn M k g) j = M j) ∧ (∀ w, (xx_learn M k g) 5 w = if w = K then k else M 5 w) ∧ (∀ w, (xx_learn M k g) 6 w = if w = K then g else M 6 w) ∧ (∀ w, (xx_learn M k g) 7 w = if w = K then n else M 7 w) ∧ (∀ z, z < K * 8 → (xx_learn M k g) 8 z = M 8 z) ∧ ∀ p, 0 ≤ p → p < 8 → (xx_learn M k g) 8 (K * 8 + p) = xx_letterNumberAt M p := by
  have hN := zN_big
  have hm : zmin (M 1 1) 8 = n := by have := zmin_r (M 1 1) 8; omega
  have e : xx_learn M k g = xx_learn_51 zN (zup (zup (zup M 5 K k) 6 K g) 7 K n) 0 := by
    unfold xx_learn
    rw [hK, if_pos K1, hm]
  obtain ⟨Z, hZ⟩ : ∃ Z, Z = zup (zup (zup M 5 K k) 6 K g) 7 K n := ⟨_, rfl⟩
  have zlo : ∀ j, j ≠ 5 → j ≠ 6 → j ≠ 7 → Z j = M j := fun j j5 j6 j7 => by rw [hZ, zup_ne j7, zup_ne j6, zup_ne j5]
  obtain ⟨a, b, c1, d1⟩ := e_learn zN Z 0 (by decide) (by decide) (by omega)
  rw [e, ← hZ]
  have z4 : Z 4 = M 4 := zlo 4 (by decide) (by decide) (by decide)
  rw [z4, hK] at b c1 d1
  refine ⟨b, fun j j4 j5 j6 j7 j8 => (a j j8 j4).trans (zlo j j5 j6 j7), fun w => ?_, fun w => ?_, fun w => ?_, fun z hz => ?_, fun p p0 p1 => ?_⟩
  · rw [a 5 (by decide) (by decide), hZ, zup_ne (by decide), zup_ne (by decide), zup_at]
  · rw [a 6 (by decide) (by decide), hZ, zup_ne (by decide), zup_at, zup_ne (by decide)]
  · rw [a 7 (by decide) (by decide), hZ, zup_at, zup_ne (by decide), zup_ne (by decide)]
  · rw [d1 z (by omega), zlo 8 (by decide) (by decide) (by decide)]
  · rw [c1 p p0 p1, c_numberAt (zlo 1 (by decide) (by decide) (by decide)) (zlo 2 (by decide) (by decide) (by decide))]
theorem b_addWord (R : R2 μ ν) {n k g : Int} (T : TW μ ν n) (hn : 1 ≤ n ∧ n ≤ 8) (hk : 0 ≤ k ∧ k ≤ 2) (hg : 0 ≤ g ∧ g ≤ 2) (h0 : k ≠ 0 → g = 0) : (xx_addWord μ k g).1 = (if μ 4 0 = 24 then -3 else μ 4 0) ∧ (xx_addWord ν k g).1 = (if μ 4 0 = 24 then -3 else μ 4 0) ∧ (μ 4 0 ≠ 24 → xx_word (xx_addWord μ k g).2 (μ 4 0) 0 = k ∧ xx_word (xx_addWord μ k g).2 (μ 4 0) 1 = g ∧ xx_word (xx_addWord μ k g).2 (μ 4 0) 2 = n ∧ xx_word (xx_addWord μ k g).2 (μ 4 0) 3 = 0) ∧ R2 (xx_addWord μ k g).2 (xx_addWord ν k g).2 := by
  have xb := xb_addWord R.B k g R.P (by omega) (by omega)
  have xb' := xb_addWord R.B' k g R.P' (by omega) (by omega)
  have N := R.N
  have hb := N.knb
  have hx : ∀ M : zM, xx_faultAsStem M = -1 → xx_addWord M k g = if M 4 0 < 24 then ((xx_learn (xx_record M) k g) 4 0 - 1, xx_learn (xx_record M) k g) else (-3, M) := by
    intro M hf
    unfold xx_addWord
    rw [ib_1 hk.1 (show k < 3 by omega), if_neg n10']
    by_cases q : k = 0
    · rw [if_pos q, ib_1 hg.1 (show g < 3 by omega), if_neg n10', if_pos hf]
    · rw [if_neg q, h0 q, ib_1 (by decide) (by decide), if_neg n10', if_pos hf]
  have f1 := hx μ (st_fault hn.1 hn.2 T.1 (fun p p0 p1 => ⟨(T.2.2 p p0 p1).1, (T.2.2 p p0 p1).2.1⟩))
  have f2 := hx ν (st_fault hn.1 hn.2 T.2.1 (fun p p0 p1 => T.sym p0 p1))
  rw [N.kn] at f2
  by_cases q : μ 4 0 < 24
  · rw [if_pos q] at f1 f2
    have r4 : xx_record μ 4 0 = μ 4 0 := congrFun (rec_k R (by decide)) 0
    have r4' : xx_record ν 4 0 = μ 4 0 := (congrFun (rec_k' R (by decide)) 0).trans N.kn
    have r1 : xx_record μ 1 1 = n := (congrFun (rec_k R (by decide)) 1).trans T.1
    have r1' : xx_record ν 1 1 = n := (congrFun (rec_k' R (by decide)) 1).trans T.2.1
    obtain ⟨a1, a2, a3, a4, a5, a6, a7⟩ := le_spec (k := k) (g := g) r4 q hb.1 r1 hn.2
    obtain ⟨b1, b2, b3, b4, b5, b6, b7⟩ := le_spec (k := k) (g := g) r4' q hb.1 r1' hn.2
    obtain ⟨c, hc⟩ : ∃ c, c = xx_learn (xx_record μ) k g := ⟨_, rfl⟩
    obtain ⟨d, hd⟩ : ∃ d, d = xx_learn (xx_record ν) k g := ⟨_, rfl⟩
    rw [← hc] at f1 a1 a2 a3 a4 a5 a6 a7
    rw [← hd] at f2 b1 b2 b3 b4 b5 b6 b7
    rw [a1, Int.add_sub_cancel] at f1
    rw [b1, Int.add_sub_cancel] at f2
    rw [f1] at xb ⊢
    rw [f2] at xb' ⊢
    dsimp only at xb xb' ⊢
    have NP : NR c d := by
      refine SR.words (α := fun o => xx_record μ (3 + o)) (β := fun o => xx_record ν (3 + o)) (K := μ 4 0) (k := k) (n := n) (g := g) R.recN (fun o ho h => a2 _ (by omega) (by omega) (by omega) (by omega) (by omega)) (fun o ho h => b2 _ (by omega) (by omega) (by omega) (by omega) (by omega)) r4 q a1 b1 a3 b3 a4 b4 a5 b5 hk hn a6 b6 (fun p p0 p1 => ?_)
      show d 8 (μ 4 0 * 8 + p) = nxt (c 8 (μ 4 0 * 8 + p)) ∧ (p < n → 1 ≤ c 8 (μ 4 0 * 8 + p) ∧ c 8 (μ 4 0 * 8 + p) ≤ 26)
      rw [a7 p p0 p1, b7 p p0 p1]
      have r2 : xx_record μ 2 = μ 2 := rec_k R (by decide)
      have r2' : xx_record ν 2 = ν 2 := rec_k' R (by decide)
      by_cases qp : p < n
      · obtain ⟨u1, u2, u3⟩ := T.2.2 p p0 qp
        have u4 := T.sym p0 qp
        have u5 := nsg_r u1 u2
        rw [ln_in r1 p0 qp (by rw [r2]; exact u1) (by rw [r2]; exact u2), ln_in r1' p0 qp (by rw [r2']; exact u4.1) (by rw [r2']; exact u4.2), r2, r2', u3]
        exact ⟨u5.2.2, fun _ => by omega⟩
      · rw [ln_out r1 (by omega), ln_out r1' (by omega)]
        exact ⟨rfl, fun h => absurd h qp⟩
    have kn : xx_knows c (μ 4 0) = 1 := kn_1 NP hb.1 (by rw [a1]; omega)
    refine ⟨by rw [if_neg (by omega)], by rw [if_neg (by omega)], fun _ => ⟨?_, ?_, ?_, ?_⟩, R.act xb xb' (fun k hk _ => a2 k (by omega) (by omega) (by omega) (by omega) (by omega)) (fun k hk _ => b2 k (by omega) (by omega) (by omega) (by omega) (by omega)) NP⟩
    · unfold xx_word xx_kindOf
      rw [kn, if_neg n10', if_pos rfl, if_neg n10', a3, if_pos rfl]
    · unfold xx_word xx_genderOf
      rw [kn, if_neg n10', if_neg (by decide), if_pos rfl, if_neg n10', a4, if_pos rfl]
    · unfold xx_word xx_stemLengthOf
      rw [kn, if_neg n10', if_neg (by decide), if_neg (by decide), if_pos rfl, if_neg n10', a5, if_pos rfl]
    · unfold xx_word
      rw [kn, if_neg n10', if_neg (by decide), if_neg (by decide), if_neg (by decide), if_pos rfl, hw_sm NP]
      have z : ∀ m : Nat, (m : Int) ≤ c 10 1 → sm (fun h => if c 18 h = μ 4 0 then 1 else 0) m = 0 := by
        intro m
        induction m with
        | zero => intro _; rfl
        | succ m ih =>
          intro hm
          have e18 : c 18 = μ 18 := (a2 18 (by decide) (by decide) (by decide) (by decide) (by decide)).trans (rec_k R (by decide))
          have e10 : c 10 = μ 10 := (a2 10 (by decide) (by decide) (by decide) (by decide) (by decide)).trans (rec_k R (by decide))
          rw [sm_succ, ih (by omega)]
          rw [e10] at hm
          have := (N.hl (h := (m : Int)) (by omega) (by omega)).2.2.2.2.2.2
          rw [e18, if_neg (by omega)]; rfl
      have hob := NP.hob
      exact z _ (by omega)
  · rw [if_neg q] at f1 f2
    rw [f1, f2]
    exact ⟨by rw [if_pos (by omega)], by rw [if_pos (by omega)], fun w => absurd w (by omega), R⟩
end EQ
