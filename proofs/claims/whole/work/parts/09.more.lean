/-- locals by their places -/
theorem Go.pick {M : eM} {pc : Nat} {ls ls' : eL} {st : List eV} {w w' : eW} {r : Option eV} (ks : List Nat) (h : ks.filterMap (fun i => ls[i]?) = ls') (k : Go M pc ls' st w r w') : Go M pc ls st w r w' := by
  refine Go.sub (fun q hq => ?_) k
  rw [← h] at hq
  obtain ⟨i, -, hi⟩ := List.mem_filterMap.mp hq
  exact List.mem_of_getElem? hi
theorem Cal.as {M : eM} {as : List eV} {w w1 w2 : eW} {r r2 : Option eV} (h : Cal M as w r w1) (e1 : r = r2) (e2 : w1 = w2) : Cal M as w r2 w2 := by
  subst e1; subst e2
  exact h
theorem Go.as {M : eM} {pc : Nat} {ls : eL} {st : List eV} {w w' w2 : eW} {r : Option eV} (e : w = w2) (h : Go M pc ls st w2 r w') : Go M pc ls st w r w' := by
  subst e
  exact h
