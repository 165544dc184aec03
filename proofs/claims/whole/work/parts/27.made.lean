/-! constructors: what they make -/
theorem zgs {Sh : List zS} {k : Nat} {a b : zS} (h : Sh[k]? = some a) : (Sh.set k b)[k]? = some b := by
  obtain ⟨hl, -⟩ := List.getElem?_eq_some_iff.mp h
  rw [List.getElem?_set_self hl]
theorem zga {Sh L : List zS} {k : Nat} {a : zS} (h : Sh[k]? = some a) : (Sh ++ L)[k]? = some a := by
  obtain ⟨hl, -⟩ := List.getElem?_eq_some_iff.mp h
  rw [List.getElem?_append_left hl]; exact h
theorem zup_same {μ : zM} {k : Nat} {z v : Int} (h : μ k z = v) : zup μ k z v = μ := by
  funext k' z'
  rw [zup_ap]
  split
  · next e => obtain ⟨rfl, rfl⟩ := e; exact h.symm
  · rfl
def zc_Text (Sh : List zS) (k : Nat) : List zS := (Sh ++ [(Sum.inr (1, 60) : zS)]).set k (Sum.inl (3, [some (some Sh.length), none]))
theorem kr_3_init_1 : decode md_3_init.2.1 1 = .ok (.invokespecial 3, 3) := by decide +kernel
def kb_3_init_0 : List zI := [(.aload_n 0, 1, 0, 0)]
theorem kd_3_init_0 : zdec md_3_init 0 kb_3_init_0 = true := by decide +kernel
