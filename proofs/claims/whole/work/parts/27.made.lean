/-! constructors: what they make -/
theorem zgs {Sh : List zS} {k : Nat} {a b : zS} (h : Sh[k]? = some a) : (Sh.set k b)[k]? = some b := by
  obtain ⟨hl, -⟩ := List.getElem?_eq_some_iff.mp h
  rw [List.getElem?_set_self hl]
theorem zga {Sh L : List zS} {k : Nat} {a : zS} (h : Sh[k]? = some a) : (Sh ++ L)[k]? = some a := by
  obtain ⟨hl, -⟩ := List.getElem?_eq_some_iff.mp h
  rw [List.getElem?_append_left hl]; exact h
theorem zup_same {μ : zM} {k : Nat} {z v : Int} (h : μ k z = v) : zup μ k z v = μ := by
  funext k' z'
  rw [zup_ap]
  split
  · next e => obtain ⟨rfl, rfl⟩ := e; exact h.symm
  · rfl
def zc_Text (Sh : List zS) (k : Nat) : List zS := (Sh ++ [.inr (1, 60)]).set k (.inl (3, [some (some Sh.length), none]))
