/-! the shape of the world behind the two constructors; what its numbers lie between -/
def zSh : List zS := [.inl (5, [some (some 1), some (some 3), some (some 21), some (some 39), none]), .inl (3, [some (some 2), none]), .inr (1, 60), .inl (1, [some (some 4), some (some 10), some (some 19), some (some 20), none, none]), .inl (4, [none, some (some 5), some (some 6), some (some 7), some (some 8), some (some 9)]), .inr (0, 24), .inr (0, 24), .inr (0, 24), .inr (0, 192), .inr (0, 18), .inl (2, [none, none, some (some 11), some (some 12), some (some 13), some (some 14), some (some 15), some (some 16), some (some 17), some (some 18)]), .inr (0, 20), .inr (0, 20), .inr (0, 20), .inr (0, 60), .inr (0, 20), .inr (0, 20), .inr (0, 20), .inr (0, 20), .inr (0, 10), .inr (0, 10), .inl (1, [some (some 22), some (some 28), some (some 37), some (some 38), none, none]), .inl (4, [none, some (some 23), some (some 24), some (some 25), some (some 26), some (some 27)]), .inr (0, 24), .inr (0, 24), .inr (0, 24), .inr (0, 192), .inr (0, 18), .inl (2, [none, none, some (some 29), some (some 30), some (some 31), some (some 32), some (some 33), some (some 34), some (some 35), some (some 36)]), .inr (0, 20), .inr (0, 20), .inr (0, 20), .inr (0, 60), .inr (0, 20), .inr (0, 20), .inr (0, 20), .inr (0, 20), .inr (0, 10), .inr (0, 10), .inl (0, [some (some 40), none]), .inr (2, 4), .inl (1, [some (some 42), some (some 48), some (some 57), some (some 58), none, none]), .inl (4, [none, some (some 43), some (some 44), some (some 45), some (some 46), some (some 47)]), .inr (0, 24), .inr (0, 24), .inr (0, 24), .inr (0, 192), .inr (0, 18), .inl (2, [none, none, some (some 49), some (some 50), some (some 51), some (some 52), some (some 53), some (some 54), some (some 55), some (some 56)]), .inr (0, 20), .inr (0, 20), .inr (0, 20), .inr (0, 60), .inr (0, 20), .inr (0, 20), .inr (0, 20), .inr (0, 20), .inr (0, 10), .inr (0, 10), .inl (1, [some (some 60), some (some 66), some (some 75), some (some 76), none, none]), .inl (4, [none, some (some 61), some (some 62), some (some 63), some (some 64), some (some 65)]), .inr (0, 24), .inr (0, 24), .inr (0, 24), .inr (0, 192), .inr (0, 18), .inl (2, [none, none, some (some 67), some (some 68), some (some 69), some (some 70), some (some 71), some (some 72), some (some 73), some (some 74)]), .inr (0, 20), .inr (0, 20), .inr (0, 20), .inr (0, 60), .inr (0, 20), .inr (0, 20), .inr (0, 20), .inr (0, 20), .inr (0, 10), .inr (0, 10), .inl (1, [some (some 78), some (some 84), some (some 93), some (some 94), none, none]), .inl (4, [none, some (some 79), some (some 80), some (some 81), some (some 82), some (some 83)]), .inr (0, 24), .inr (0, 24), .inr (0, 24), .inr (0, 192), .inr (0, 18), .inl (2, [none, none, some (some 85), some (some 86), some (some 87), some (some 88), some (some 89), some (some 90), some (some 91), some (some 92)]), .inr (0, 20), .inr (0, 20), .inr (0, 20), .inr (0, 60), .inr (0, 20), .inr (0, 20), .inr (0, 20), .inr (0, 20), .inr (0, 10), .inr (0, 10), .inl (1, [some (some 96), some (some 102), some (some 111), some (some 112), none, none]), .inl (4, [none, some (some 97), some (some 98), some (some 99), some (some 100), some (some 101)]), .inr (0, 24), .inr (0, 24), .inr (0, 24), .inr (0, 192), .inr (0, 18), .inl (2, [none, none, some (some 103), some (some 104), some (some 105), some (some 106), some (some 107), some (some 108), some (some 109), some (some 110)]), .inr (0, 20), .inr (0, 20), .inr (0, 20), .inr (0, 60), .inr (0, 20), .inr (0, 20), .inr (0, 20), .inr (0, 20), .inr (0, 10), .inr (0, 10)]
def zOkS (o : Nat) (z v : Int) : Prop := match o with
  | 0 => if z = 4 then 0 ≤ v ∧ v ≤ 1 else True
  | 1 => if z = 0 then 0 ≤ v ∧ v ≤ 24 else True
  | 2 => 0 ≤ v ∧ v ≤ 2
  | 3 => 0 ≤ v ∧ v ≤ 2
  | 4 => 0 ≤ v ∧ v ≤ 8
  | 5 => 0 ≤ v ∧ v ≤ 26
  | 6 => 0 ≤ v ∧ v ≤ 728
  | 7 => if z = 0 then 0 ≤ v ∧ v ≤ 20 else if z = 1 then 0 ≤ v ∧ v ≤ 20 else True
  | 8 => (-1) ≤ v ∧ v ≤ 19
  | 9 => 0 ≤ v ∧ v ≤ 60
  | 10 => 0 ≤ v ∧ v ≤ 60
  | 11 => 0 ≤ v ∧ v ≤ 65535
  | 12 => (-1) ≤ v ∧ v ≤ 2
  | 13 => (-1) ≤ v ∧ v ≤ 9
  | 14 => 0 ≤ v ∧ v ≤ 19
  | 15 => (-1) ≤ v ∧ v ≤ 23
  | 16 => 0 ≤ v ∧ v ≤ 1
  | _ => 0 ≤ v ∧ v ≤ 2
def zOkA (o : Nat) (z v : Int) : Prop := match o with
  | 0 => if z = 4 then 0 ≤ v ∧ v ≤ 1 else True
  | 1 => if z = 1 then 0 ≤ v ∧ v ≤ 60 else True
  | 2 => 0 ≤ v ∧ v ≤ 65535
  | 39 => if z = 1 then 0 ≤ v ∧ v ≤ 4 else True
  | 40 => 0 ≤ v ∧ v ≤ 95
  | _ => True
def zOkR (z v : Int) : Prop := if z = 0 then 0 ≤ v ∧ v ≤ 1 else if z = 1 then True else if z = 2 then 0 ≤ v ∧ v ≤ 24 else if z = 3 then 0 ≤ v ∧ v ≤ 20
  else if z < 268 then (if (z - 4) % 11 < 2 then 0 ≤ v ∧ v ≤ 2 else if (z - 4) % 11 = 2 then 0 ≤ v ∧ v ≤ 8 else 0 ≤ v ∧ v ≤ 26)
  else if z < 304 then 0 ≤ v ∧ v ≤ 26
  else if z < 584 then (if (z - 304) % 14 = 0 then 0 ≤ v ∧ v ≤ 1 else if (z - 304) % 14 = 1 then 0 ≤ v ∧ v ≤ 10 else if (z - 304) % 14 = 2 then 0 ≤ v ∧ v ≤ 9 else if (z - 304) % 14 = 3 then v = -5 ∨ (0 ≤ v ∧ v ≤ 23) else 0 ≤ v ∧ v ≤ 26)
  else (if (z - 584) % 2 = 0 then 0 ≤ v ∧ v ≤ 1 else 0 ≤ v ∧ v ≤ 2)
def zOkM (o : Nat) (z v : Int) : Prop := match o with
  | 113 => if z = 3 then 0 ≤ v ∧ v ≤ 4 else if z = 5 then 0 ≤ v ∧ v ≤ 1 else if z = 8 then 0 ≤ v ∧ v ≤ 60 else if z = 9 then 0 ≤ v ∧ v ≤ 60 else if z = 10 then 0 ≤ v ∧ v ≤ 20 else True
  | 114 => zOkR z v
  | 115 => zOkR z v
  | 116 => zOkR (z % 604) v
  | 117 => zOkR z v
  | 118 => if z % 14 = 0 then 0 ≤ v ∧ v ≤ 1 else if z % 14 = 1 then 0 ≤ v ∧ v ≤ 10 else if z % 14 = 2 then 0 ≤ v ∧ v ≤ 9 else if z % 14 = 3 then v = -5 ∨ (0 ≤ v ∧ v ≤ 23) else 0 ≤ v ∧ v ≤ 26
  | 119 => 0 ≤ v ∧ v ≤ 65535
  | _ => True
def zOk (k : Nat) (z v : Int) : Prop := if k < 3 then zOkA k z v else if k < 39 then zOkS ((k - 3) % 18) z v else if k < 41 then zOkA k z v else if k < 113 then zOkS ((k - 41) % 18) z v else zOkM k z v
/-- every number of the world lies where it must -/
def zB (μ : zM) : Prop := ∀ (k : Nat) (z : Int), zOk k z (μ k z)
theorem zup_ok {μ : zM} (h : zB μ) {k : Nat} {z v : Int} (hv : zOk k z v) : zB (zup μ k z v) := by
  intro k' z'
  rw [zup_ap]
  split
  · next e => obtain ⟨rfl, rfl⟩ := e; exact hv
  · exact h k' z'
abbrev zand (a b : Int) : Int := (Int32.ofInt a &&& Int32.ofInt b).toInt
abbrev zor (a b : Int) : Int := (Int32.ofInt a ||| Int32.ofInt b).toInt
abbrev zshl (a b : Int) : Int := (Int32.ofInt a <<< (Int32.ofInt b &&& 31)).toInt
def zlcm (a b : Int) : Int := if b < a then 1 else if a = b then 0 else -1
def zmax (a b : Int) : Int := if a < b then b else a
def zmin (a b : Int) : Int := if b < a then b else a
theorem z32_r (x : Int32) : -2147483648 ≤ x.toInt ∧ x.toInt ≤ 2147483647 := by
  have h1 := x.le_toInt
  have h2 := x.toInt_lt
  omega
theorem zlcm_r (a b : Int) : (zlcm a b = 1 ∧ b < a) ∨ (zlcm a b = 0 ∧ a = b) ∨ (zlcm a b = -1 ∧ a < b) := by
  unfold zlcm
  split
  · omega
  · split <;> omega
theorem zmax_r (a b : Int) : (zmax a b = b ∧ a ≤ b) ∨ (zmax a b = a ∧ b ≤ a) := by
  unfold zmax
  split <;> omega
theorem zmin_r (a b : Int) : (zmin a b = b ∧ b ≤ a) ∨ (zmin a b = a ∧ a ≤ b) := by
  unfold zmin
  split <;> omega
/-- as many turns as any loop can want; no number that a program could count down -/
theorem zN_ex : ∃ n : Nat, (3000 : Int) ≤ (n : Int) := ⟨3000, by omega⟩
noncomputable def zN : Nat := Classical.choose zN_ex
theorem zN_big : (3000 : Int) ≤ ((zN : Nat) : Int) := Classical.choose_spec zN_ex
