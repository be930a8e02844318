/-! THE RULES: from behind an instruction to ahead of it. -/
section RU
variable {M : eM} {pc : Nat} {ls ls' : eL} {st : List eV} {w w' : eW} {r : Option eV}
/-- a local by its number -/
def eLg (i : Nat) (ls : eL) : Option eV := (ls.find? (fun q => q.1 == i)).map (·.2)
/-- a local set -/
def eLs (i : Nat) (v : eV) (ls : eL) : eL := (i, v) :: ls.filter (fun q => !(q.1 == i) && (!(v.1 == 1 && q.1 == i + 1) && !(q.1 + 1 == i && q.2.1 == 1)))
theorem eLg_at {E : eE} {la : Array Slot} {n i : Nat} {v : eV} (hl : lv_has la n (ls.map fun q => (q.1, eC E.2.1 q.2))) (h : eLg i ls = some v) : la[i]? = some (.val (eC E.2.1 v)) := by
  unfold eLg at h
  obtain ⟨q, hq, e⟩ := Option.map_eq_some_iff.mp h
  have h1 := List.mem_of_find?_eq_some hq
  have h2 : q.1 = i := by have := List.find?_some hq; simpa using this
  have h3 := hl.2.2 (q.1, eC E.2.1 q.2) (List.mem_map.mpr ⟨q, h1, rfl⟩)
  rw [h2] at h3
  rw [← e]
  exact h3
theorem eC_cat (ad : Nat → Nat) (v : eV) : (eC ad v).category = if v.1 = 1 then 2 else 1 := by
  obtain ⟨t, n⟩ := v
  match t with
  | 0 => rfl
  | 1 => rfl
  | t + 2 => rfl
theorem eC_cat2 (ad : Nat → Nat) (v : eV) : ((eC ad v).category == 2) = (v.1 == 1) := by
  rw [eC_cat]
  by_cases h : v.1 = 1 <;> simp [h]
theorem eLs_1 {E : eE} {i : Nat} {v : eV} (hv : v.1 ≠ 1) : (i, eC E.2.1 v) :: (ls.map fun q => (q.1, eC E.2.1 q.2)).filter (fun q => !(q.1 == i) && !(q.1 + 1 == i && q.2.category == 2)) = (eLs i v ls).map fun q => (q.1, eC E.2.1 q.2) := by
  unfold eLs
  rw [List.map_cons, List.filter_map]
  congr 2
  apply List.filter_congr
  intro q _
  have hv1 : (v.1 == 1) = false := by simp [hv]
  simp [Function.comp, eC_cat2, hv1]
theorem eLs_2 {E : eE} {i : Nat} {v : eV} (hv : v.1 = 1) : (i, eC E.2.1 v) :: (ls.map fun q => (q.1, eC E.2.1 q.2)).filter (fun q => !(q.1 == i) && (!(q.1 == i + 1) && !(q.1 + 1 == i && q.2.category == 2))) = (eLs i v ls).map fun q => (q.1, eC E.2.1 q.2) := by
  unfold eLs
  rw [List.map_cons, List.filter_map]
  congr 2
  apply List.filter_congr
  intro q _
  simp [Function.comp, eC_cat2, hv]
/-- fewer locals, or the same in another order -/
theorem Go.sub (h : ∀ q ∈ ls', q ∈ ls) (k : Go M pc ls' st w r w') : Go M pc ls st w r w' := by
  intro E p l e s m args below meth c H locs la X hP hS hl
  refine k E p l e s m args below meth c H locs la X hP hS ⟨hl.1, hl.2.1, fun q hq => ?_⟩
  obtain ⟨z, hz, e⟩ := List.mem_map.mp hq
  exact hl.2.2 q (List.mem_map.mpr ⟨z, h z hz, e⟩)
def eArgs : Nat → List eV → eL
  | _, [] => []
  | i, v :: vs => (i, v) :: eArgs (if v.1 = 1 then i + 2 else i + 1) vs
theorem eArgs_lv (ad : Nat → Nat) : ∀ (vs : List eV) (i : Nat), lv_args i (vs.map (eC ad)) = (eArgs i vs).map fun q => (q.1, eC ad q.2) := by
  intro vs
  induction vs with
  | nil => intro i; rfl
  | cons v vs ih =>
    intro i
    show (i, eC ad v) :: lv_args (if (eC ad v).category = 2 then i + 2 else i + 1) (vs.map (eC ad)) = (i, eC ad v) :: (eArgs (if v.1 = 1 then i + 2 else i + 1) vs).map _
    rw [ih]
    congr 3
    rw [eC_cat]
    by_cases hv : v.1 = 1 <;> simp [hv]
theorem eArgs_len (ad : Nat → Nat) (vs : List eV) : (lg_sl (vs.map (eC ad))).length = (vs.map fun v => if v.1 = 1 then 2 else 1).sum := by
  induction vs with
  | nil => rfl
  | cons v vs ih =>
    have h1 : lg_sl ((v :: vs).map (eC ad)) = lg_sl [eC ad v] ++ lg_sl (vs.map (eC ad)) := by simp [lg_sl]
    rw [h1, List.length_append, ih, List.map_cons, List.sum_cons]
    congr 1
    obtain ⟨t, n⟩ := v
    match t with
    | 0 => rfl
    | 1 => rfl
    | t + 2 => rfl
/-- a call, out of its body's walk -/
theorem Cal.of {as : List eV} (hn : plainName M.1.cls = true) (hlen : (as.map fun v => if v.1 = 1 then 2 else 1).sum ≤ M.2.2.1) (k : Go M 0 (eArgs 0 as) [] w r w') : Cal M as w r w' := by
  intro E l hA
  refine Met.ofW (cc := M.2.1) (maxL := M.2.2.1) (ret := M.2.2.2.1) (ws' := eTb) hn rfl ?_
  intro p e s m args below meth c s₁ B hml hv
  obtain ⟨rfl, hz, hP, hK, hO⟩ := hv
  have hts := atoms_spec (ws := eWd M) B.pre
  have hl := lv_entry (as.map (eC E.2.1)) (n := M.2.2.1) (by rw [eArgs_len]; exact hlen)
  rw [lg_entry_eq]
  rw [eArgs_lv] at hl
  exact k E p l e s m _ below meth c s.heap [] _ ⟨B.exec, B.bytes, hml, B.returns, B.notSynchronized, findClass_of_methodNamed B.named, fun w h => hts w (List.mem_cons_of_mem _ h), hK, hO, hA, hz⟩ hP va_S.rf hl

theorem go_iload_n {k : Fin 4} {i : Nat} {x : Int} (hd : decode M.2.1 pc = .ok (.iload_n k, 1)) (hi : (k : Nat) = i) (h : eLg i ls = some (0, x)) (k : Go M (pc + 1) ls ((0, x) :: st) w r w') : Go M pc ls st w r w' := by
  intro E p l e s m args below meth c H locs la X hP hS hl
  obtain ⟨hx, hb, hml, hr, hlk, hown, hts, hK, hO, hA, hz⟩ := id X
  exact lv_iload_n hx hb hd hi (eLg_at hl h) (k E p l e s m args below meth c H locs la X hP hS hl)
theorem go_iload {i : Nat} {x : Int} (hd : decode M.2.1 pc = .ok (.iload i, 2)) (h : eLg i ls = some (0, x)) (k : Go M (pc + 2) ls ((0, x) :: st) w r w') : Go M pc ls st w r w' := by
  intro E p l e s m args below meth c H locs la X hP hS hl
  obtain ⟨hx, hb, hml, hr, hlk, hown, hts, hK, hO, hA, hz⟩ := id X
  exact lv_iload hx hb hd (eLg_at hl h) (k E p l e s m args below meth c H locs la X hP hS hl)
theorem go_lload_n {k : Fin 4} {i : Nat} {x : Int} (hd : decode M.2.1 pc = .ok (.lload_n k, 1)) (hi : (k : Nat) = i) (h : eLg i ls = some (1, x)) (k : Go M (pc + 1) ls ((1, x) :: st) w r w') : Go M pc ls st w r w' := by
  intro E p l e s m args below meth c H locs la X hP hS hl
  obtain ⟨hx, hb, hml, hr, hlk, hown, hts, hK, hO, hA, hz⟩ := id X
  exact lv_lload_n hx hb hd hi (eLg_at hl h) (k E p l e s m args below meth c H locs la X hP hS hl)
theorem go_lload {i : Nat} {x : Int} (hd : decode M.2.1 pc = .ok (.lload i, 2)) (h : eLg i ls = some (1, x)) (k : Go M (pc + 2) ls ((1, x) :: st) w r w') : Go M pc ls st w r w' := by
  intro E p l e s m args below meth c H locs la X hP hS hl
  obtain ⟨hx, hb, hml, hr, hlk, hown, hts, hK, hO, hA, hz⟩ := id X
  exact lv_lload hx hb hd (eLg_at hl h) (k E p l e s m args below meth c H locs la X hP hS hl)
theorem go_aload_n {k : Fin 4} {i o : Nat} (hd : decode M.2.1 pc = .ok (.aload_n k, 1)) (hi : (k : Nat) = i) (h : eLg i ls = some (eR o)) (k : Go M (pc + 1) ls (eR o :: st) w r w') : Go M pc ls st w r w' := by
  intro E p l e s m args below meth c H locs la X hP hS hl
  obtain ⟨hx, hb, hml, hr, hlk, hown, hts, hK, hO, hA, hz⟩ := id X
  exact lv_aload_n hx hb hd hi (eLg_at hl h) (k E p l e s m args below meth c H locs la X hP hS hl)
theorem go_aload {i o : Nat} (hd : decode M.2.1 pc = .ok (.aload i, 2)) (h : eLg i ls = some (eR o)) (k : Go M (pc + 2) ls (eR o :: st) w r w') : Go M pc ls st w r w' := by
  intro E p l e s m args below meth c H locs la X hP hS hl
  obtain ⟨hx, hb, hml, hr, hlk, hown, hts, hK, hO, hA, hz⟩ := id X
  exact lv_aload hx hb hd (eLg_at hl h) (k E p l e s m args below meth c H locs la X hP hS hl)
theorem go_istore_n {k : Fin 4} {i : Nat} {x : Int} (hd : decode M.2.1 pc = .ok (.istore_n k, 1)) (hi : (k : Nat) = i) (hn : i < M.2.2.1) (k : Go M (pc + 1) (eLs i (0, x) ls) st w r w') : Go M pc ls ((0, x) :: st) w r w' := by
  intro E p l e s m args below meth c H locs la X hP hS hl
  obtain ⟨hx, hb, hml, hr, hlk, hown, hts, hK, hO, hA, hz⟩ := id X
  exact lv_istore_n hx hb hd hi hl hn (eLs_1 (v := (0, x)) (by simp)) (fun la hl => k E p l e s m args below meth c H locs la X hP hS hl)
theorem go_istore {i : Nat} {x : Int} (hd : decode M.2.1 pc = .ok (.istore i, 2)) (hn : i < M.2.2.1) (k : Go M (pc + 2) (eLs i (0, x) ls) st w r w') : Go M pc ls ((0, x) :: st) w r w' := by
  intro E p l e s m args below meth c H locs la X hP hS hl
  obtain ⟨hx, hb, hml, hr, hlk, hown, hts, hK, hO, hA, hz⟩ := id X
  exact lv_istore hx hb hd hl hn (eLs_1 (v := (0, x)) (by simp)) (fun la hl => k E p l e s m args below meth c H locs la X hP hS hl)
theorem go_lstore_n {k : Fin 4} {i : Nat} {x : Int} (hd : decode M.2.1 pc = .ok (.lstore_n k, 1)) (hi : (k : Nat) = i) (hn : i + 1 < M.2.2.1) (k : Go M (pc + 1) (eLs i (1, x) ls) st w r w') : Go M pc ls ((1, x) :: st) w r w' := by
  intro E p l e s m args below meth c H locs la X hP hS hl
  obtain ⟨hx, hb, hml, hr, hlk, hown, hts, hK, hO, hA, hz⟩ := id X
  exact lv_lstore_n hx hb hd hi hl hn (eLs_2 (v := (1, x)) rfl) (fun la hl => k E p l e s m args below meth c H locs la X hP hS hl)
theorem go_lstore {i : Nat} {x : Int} (hd : decode M.2.1 pc = .ok (.lstore i, 2)) (hn : i + 1 < M.2.2.1) (k : Go M (pc + 2) (eLs i (1, x) ls) st w r w') : Go M pc ls ((1, x) :: st) w r w' := by
  intro E p l e s m args below meth c H locs la X hP hS hl
  obtain ⟨hx, hb, hml, hr, hlk, hown, hts, hK, hO, hA, hz⟩ := id X
  exact lv_lstore hx hb hd hl hn (eLs_2 (v := (1, x)) rfl) (fun la hl => k E p l e s m args below meth c H locs la X hP hS hl)
theorem go_iinc {i : Nat} {n x : Int} (hd : decode M.2.1 pc = .ok (.iinc i n, 3)) (h : eLg i ls = some (0, x)) (hn : i < M.2.2.1) (k : Go M (pc + 3) (eLs i (0, x + n) ls) st w r w') : Go M pc ls st w r w' := by
  intro E p l e s m args below meth c H locs la X hP hS hl
  obtain ⟨hx, hb, hml, hr, hlk, hown, hts, hK, hO, hA, hz⟩ := id X
  obtain ⟨j, hj⟩ : ∃ j : Nat, (ls.map fun q => (q.1, eC E.2.1 q.2))[j]? = some (i, .int (Int32.ofInt x)) := by
    unfold eLg at h
    obtain ⟨q, hq, e⟩ := Option.map_eq_some_iff.mp h
    have h2 : q.1 = i := by have := List.find?_some hq; simpa using this
    apply List.getElem?_of_mem
    refine List.mem_map.mpr ⟨q, List.mem_of_find?_eq_some hq, ?_⟩
    rw [e, h2]
    rfl
  exact lv_iinc (v := Int32.ofInt (x + n)) hx hb hd hl hj (Int32.ofInt_add x n).symm hn (eLs_1 (v := (0, x + n)) (by simp)) (fun la hl => k E p l e s m args below meth c H locs la X hP hS hl)
theorem go_iconst {n : Int} (hd : decode M.2.1 pc = .ok (.iconst n, 1)) (k : Go M (pc + 1) ls ((0, n) :: st) w r w') : Go M pc ls st w r w' := by
  intro E p l e s m args below meth c H locs la X hP hS hl
  obtain ⟨hx, hb, hml, hr, hlk, hown, hts, hK, hO, hA, hz⟩ := id X
  exact lv_iconst hx hb hd rfl (k E p l e s m args below meth c H locs la X hP hS hl)
theorem go_bipush {n : Int} (hd : decode M.2.1 pc = .ok (.bipush n, 2)) (hn : (Int8.ofInt n).toInt32 = Int32.ofInt n) (k : Go M (pc + 2) ls ((0, n) :: st) w r w') : Go M pc ls st w r w' := by
  intro E p l e s m args below meth c H locs la X hP hS hl
  obtain ⟨hx, hb, hml, hr, hlk, hown, hts, hK, hO, hA, hz⟩ := id X
  exact lv_bipush hx hb hd hn (k E p l e s m args below meth c H locs la X hP hS hl)
theorem go_sipush {n : Int} (hd : decode M.2.1 pc = .ok (.sipush n, 3)) (hn : (Int16.ofInt n).toInt32 = Int32.ofInt n) (k : Go M (pc + 3) ls ((0, n) :: st) w r w') : Go M pc ls st w r w' := by
  intro E p l e s m args below meth c H locs la X hP hS hl
  obtain ⟨hx, hb, hml, hr, hlk, hown, hts, hK, hO, hA, hz⟩ := id X
  exact lv_sipush hx hb hd hn (k E p l e s m args below meth c H locs la X hP hS hl)
theorem go_lconst {j : Fin 2} {n : Int} (hd : decode M.2.1 pc = .ok (.lconst j, 1)) (hn : Int64.ofNat (j : Nat) = Int64.ofInt n) (k : Go M (pc + 1) ls ((1, n) :: st) w r w') : Go M pc ls st w r w' := by
  intro E p l e s m args below meth c H locs la X hP hS hl
  obtain ⟨hx, hb, hml, hr, hlk, hown, hts, hK, hO, hA, hz⟩ := id X
  exact lv_lconst hx hb hd hn (k E p l e s m args below meth c H locs la X hP hS hl)
theorem go_ldc {i : Nat} {n : Int} (hd : decode M.2.1 pc = .ok (.ldc i, 2)) (hw : Cond.constant M.1.cls i (Int32.ofInt n) ∈ eTb) (k : Go M (pc + 2) ls ((0, n) :: st) w r w') : Go M pc ls st w r w' := by
  intro E p l e s m args below meth c H locs la X hP hS hl
  obtain ⟨hx, hb, hml, hr, hlk, hown, hts, hK, hO, hA, hz⟩ := id X
  exact lv_ldc hx hb hown (hts _ hw) hd (k E p l e s m args below meth c H locs la X hP hS hl)
theorem go_ldcw {i : Nat} {n : Int} (hd : decode M.2.1 pc = .ok (.ldc_w i, 3)) (hw : Cond.constant M.1.cls i (Int32.ofInt n) ∈ eTb) (k : Go M (pc + 3) ls ((0, n) :: st) w r w') : Go M pc ls st w r w' := by
  intro E p l e s m args below meth c H locs la X hP hS hl
  obtain ⟨hx, hb, hml, hr, hlk, hown, hts, hK, hO, hA, hz⟩ := id X
  exact lv_ldcw hx hb hown (hts _ hw) hd (k E p l e s m args below meth c H locs la X hP hS hl)
theorem go_ldc2 {i : Nat} {n : Int} (hd : decode M.2.1 pc = .ok (.ldc2_w i, 3)) (hw : Cond.constantLong M.1.cls i (Int64.ofInt n) ∈ eTb) (k : Go M (pc + 3) ls ((1, n) :: st) w r w') : Go M pc ls st w r w' := by
  intro E p l e s m args below meth c H locs la X hP hS hl
  obtain ⟨hx, hb, hml, hr, hlk, hown, hts, hK, hO, hA, hz⟩ := id X
  exact lv_ldc2 hx hb hown (hts _ hw) hd (k E p l e s m args below meth c H locs la X hP hS hl)
theorem go_ldcS {i o : Nat} {tx : String} (hd : decode M.2.1 pc = .ok (.ldc i, 2)) (hw : (M.1.cls, i, tx, o) ∈ eSr) (k : Go M (pc + 2) ls (eR o :: st) w r w') : Go M pc ls st w r w' := by
  intro E p l e s m args below meth c H locs la X hP hS hl
  obtain ⟨hx, hb, hml, hr, hlk, hown, hts, hK, hO, hA, hz⟩ := id X
  exact va_ldcS hx hb hown (hO.2.2.2.2.1 _ hw) hd (k E p l e s m args below meth c H locs la X hP hS hl)
theorem go_iadd {a b : Int} (hd : decode M.2.1 pc = .ok (.iadd, 1)) (k : Go M (pc + 1) ls ((0, a + b) :: st) w r w') : Go M pc ls ((0, b) :: (0, a) :: st) w r w' := by
  intro E p l e s m args below meth c H locs la X hP hS hl
  obtain ⟨hx, hb, hml, hr, hlk, hown, hts, hK, hO, hA, hz⟩ := id X
  refine lv_iadd hx hb hd ?_
  have h := k E p l e s m args below meth c H locs la X hP hS hl
  rw [List.map_cons, show eC E.2.1 (0, a + b) = .int (Int32.ofInt (a + b)) from rfl, Int32.ofInt_add a b] at h
  exact h
theorem go_isub {a b : Int} (hd : decode M.2.1 pc = .ok (.isub, 1)) (k : Go M (pc + 1) ls ((0, a - b) :: st) w r w') : Go M pc ls ((0, b) :: (0, a) :: st) w r w' := by
  intro E p l e s m args below meth c H locs la X hP hS hl
  obtain ⟨hx, hb, hml, hr, hlk, hown, hts, hK, hO, hA, hz⟩ := id X
  refine lv_isub hx hb hd ?_
  have h := k E p l e s m args below meth c H locs la X hP hS hl
  rw [List.map_cons, show eC E.2.1 (0, a - b) = .int (Int32.ofInt (a - b)) from rfl, Int32.ofInt_sub a b] at h
  exact h
theorem go_imul {a b : Int} (hd : decode M.2.1 pc = .ok (.imul, 1)) (k : Go M (pc + 1) ls ((0, a * b) :: st) w r w') : Go M pc ls ((0, b) :: (0, a) :: st) w r w' := by
  intro E p l e s m args below meth c H locs la X hP hS hl
  obtain ⟨hx, hb, hml, hr, hlk, hown, hts, hK, hO, hA, hz⟩ := id X
  refine lv_imul hx hb hd ?_
  have h := k E p l e s m args below meth c H locs la X hP hS hl
  rw [List.map_cons, show eC E.2.1 (0, a * b) = .int (Int32.ofInt (a * b)) from rfl, Int32.ofInt_mul a b] at h
  exact h
theorem go_ladd {a b : Int} (hd : decode M.2.1 pc = .ok (.ladd, 1)) (k : Go M (pc + 1) ls ((1, a + b) :: st) w r w') : Go M pc ls ((1, b) :: (1, a) :: st) w r w' := by
  intro E p l e s m args below meth c H locs la X hP hS hl
  obtain ⟨hx, hb, hml, hr, hlk, hown, hts, hK, hO, hA, hz⟩ := id X
  refine lv_ladd hx hb hd ?_
  have h := k E p l e s m args below meth c H locs la X hP hS hl
  rw [List.map_cons, show eC E.2.1 (1, a + b) = .long (Int64.ofInt (a + b)) from rfl, Int64.ofInt_add a b] at h
  exact h
theorem go_lsub {a b : Int} (hd : decode M.2.1 pc = .ok (.lsub, 1)) (k : Go M (pc + 1) ls ((1, a - b) :: st) w r w') : Go M pc ls ((1, b) :: (1, a) :: st) w r w' := by
  intro E p l e s m args below meth c H locs la X hP hS hl
  obtain ⟨hx, hb, hml, hr, hlk, hown, hts, hK, hO, hA, hz⟩ := id X
  refine lv_lsub hx hb hd ?_
  have h := k E p l e s m args below meth c H locs la X hP hS hl
  rw [List.map_cons, show eC E.2.1 (1, a - b) = .long (Int64.ofInt (a - b)) from rfl, Int64.ofInt_sub a b] at h
  exact h
theorem go_lmul {a b : Int} (hd : decode M.2.1 pc = .ok (.lmul, 1)) (k : Go M (pc + 1) ls ((1, a * b) :: st) w r w') : Go M pc ls ((1, b) :: (1, a) :: st) w r w' := by
  intro E p l e s m args below meth c H locs la X hP hS hl
  obtain ⟨hx, hb, hml, hr, hlk, hown, hts, hK, hO, hA, hz⟩ := id X
  refine lv_lmul hx hb hd ?_
  have h := k E p l e s m args below meth c H locs la X hP hS hl
  rw [List.map_cons, show eC E.2.1 (1, a * b) = .long (Int64.ofInt (a * b)) from rfl, Int64.ofInt_mul a b] at h
  exact h
theorem go_ineg {a : Int} (hd : decode M.2.1 pc = .ok (.ineg, 1)) (k : Go M (pc + 1) ls ((0, -a) :: st) w r w') : Go M pc ls ((0, a) :: st) w r w' := by
  intro E p l e s m args below meth c H locs la X hP hS hl
  obtain ⟨hx, hb, hml, hr, hlk, hown, hts, hK, hO, hA, hz⟩ := id X
  refine lv_ineg hx hb hd ?_
  have h := k E p l e s m args below meth c H locs la X hP hS hl
  rw [List.map_cons, show eC E.2.1 (0, -a) = .int (Int32.ofInt (-a)) from rfl, Int32.ofInt_neg a] at h
  exact h
def eAnd (a b : Int) : Int := (Int32.ofInt a &&& Int32.ofInt b).toInt
def eOr (a b : Int) : Int := (Int32.ofInt a ||| Int32.ofInt b).toInt
def eXor (a b : Int) : Int := (Int32.ofInt a ^^^ Int32.ofInt b).toInt
theorem go_iand {a b : Int} (hd : decode M.2.1 pc = .ok (.iand, 1)) (k : Go M (pc + 1) ls ((0, eAnd a b) :: st) w r w') : Go M pc ls ((0, b) :: (0, a) :: st) w r w' := by
  intro E p l e s m args below meth c H locs la X hP hS hl
  obtain ⟨hx, hb, hml, hr, hlk, hown, hts, hK, hO, hA, hz⟩ := id X
  refine lv_iand hx hb hd ?_
  have h := k E p l e s m args below meth c H locs la X hP hS hl
  rw [List.map_cons, show eC E.2.1 (0, eAnd a b) = .int (Int32.ofInt (eAnd a b)) from rfl, eAnd, Int32.ofInt_toInt] at h
  exact h
theorem go_ior {a b : Int} (hd : decode M.2.1 pc = .ok (.ior, 1)) (k : Go M (pc + 1) ls ((0, eOr a b) :: st) w r w') : Go M pc ls ((0, b) :: (0, a) :: st) w r w' := by
  intro E p l e s m args below meth c H locs la X hP hS hl
  obtain ⟨hx, hb, hml, hr, hlk, hown, hts, hK, hO, hA, hz⟩ := id X
  refine lv_ior hx hb hd ?_
  have h := k E p l e s m args below meth c H locs la X hP hS hl
  rw [List.map_cons, show eC E.2.1 (0, eOr a b) = .int (Int32.ofInt (eOr a b)) from rfl, eOr, Int32.ofInt_toInt] at h
  exact h
theorem go_ixor {a b : Int} (hd : decode M.2.1 pc = .ok (.ixor, 1)) (k : Go M (pc + 1) ls ((0, eXor a b) :: st) w r w') : Go M pc ls ((0, b) :: (0, a) :: st) w r w' := by
  intro E p l e s m args below meth c H locs la X hP hS hl
  obtain ⟨hx, hb, hml, hr, hlk, hown, hts, hK, hO, hA, hz⟩ := id X
  refine lv_ixor hx hb hd ?_
  have h := k E p l e s m args below meth c H locs la X hP hS hl
  rw [List.map_cons, show eC E.2.1 (0, eXor a b) = .int (Int32.ofInt (eXor a b)) from rfl, eXor, Int32.ofInt_toInt] at h
  exact h
/-- shifts by 0 .. 31 -/
theorem e_sh {b : Int} (hb : 0 ≤ b ∧ b < 32) : Int32.ofInt b &&& 31 = Int32.ofInt b := by
  obtain ⟨n, rfl⟩ := Int.eq_ofNat_of_zero_le hb.1
  have key : ∀ j : Fin 32, Int32.ofInt (j.val : Int) &&& 31 = Int32.ofInt (j.val : Int) := by decide
  exact key ⟨n, by omega⟩
theorem e_sm {b : Int} (hb : 0 ≤ b ∧ b < 32) : (Int32.ofInt b).toBitVec.smod 32 = BitVec.ofNat 32 b.toNat := by
  obtain ⟨n, rfl⟩ := Int.eq_ofNat_of_zero_le hb.1
  have key : ∀ j : Fin 32, (Int32.ofInt (j.val : Int)).toBitVec.smod 32 = BitVec.ofNat 32 j.val := by decide
  exact key ⟨n, by omega⟩
theorem e_shl (a : Int) {b : Int} (hb : 0 ≤ b ∧ b < 32) : Int32.ofInt a <<< (Int32.ofInt b &&& 31) = Int32.ofInt (a * 2 ^ b.toNat) := by
  rw [e_sh hb]
  apply Int32.toBitVec_inj.mp
  rw [Int32.toBitVec_shiftLeft, e_sm hb, Int32.toBitVec_ofInt, Int32.toBitVec_ofInt, BitVec.shiftLeft_eq', BitVec.toNat_ofNat, Nat.mod_eq_of_lt (by omega), BitVec.shiftLeft_eq_mul_twoPow, BitVec.ofInt_mul]
  congr 1
  have key : ∀ j : Fin 32, BitVec.twoPow 32 j.val = BitVec.ofInt 32 (2 ^ j.val) := by decide
  exact key ⟨b.toNat, by omega⟩
theorem e_shr {a b : Int} (ha : eI a) (hb : 0 ≤ b ∧ b < 32) : Int32.ofInt a >>> (Int32.ofInt b &&& 31) = Int32.ofInt (a / 2 ^ b.toNat) := by
  rw [e_sh hb]
  apply Int32.toInt_inj.mp
  have hI : eI (a / 2 ^ b.toNat) := by
    have hp : (0 : Int) < 2 ^ b.toNat := Int.pow_pos (by decide)
    generalize (2 : Int) ^ b.toNat = P at hp
    have h1 := ha.1
    have h2 := ha.2
    exact ⟨Int.le_ediv_of_mul_le hp (by omega), Int.ediv_lt_of_lt_mul hp (by omega)⟩
  rw [eI_toInt hI]
  show (Int32.ofInt a >>> Int32.ofInt b).toBitVec.toInt = _
  rw [Int32.toBitVec_shiftRight, e_sm hb, BitVec.sshiftRight_eq', BitVec.toInt_sshiftRight, BitVec.toNat_ofNat, Nat.mod_eq_of_lt (by omega)]
  show (Int32.ofInt a).toInt >>> b.toNat = _
  rw [eI_toInt ha, Int.shiftRight_eq_div_pow, Int.natCast_pow]
  rfl
theorem go_ishl {a b : Int} (hd : decode M.2.1 pc = .ok (.ishl, 1)) (hc : 0 ≤ b ∧ b < 32) (k : Go M (pc + 1) ls ((0, a * 2 ^ b.toNat) :: st) w r w') : Go M pc ls ((0, b) :: (0, a) :: st) w r w' := by
  intro E p l e s m args below meth c H locs la X hP hS hl
  obtain ⟨hx, hb, hml, hr, hlk, hown, hts, hK, hO, hA, hz⟩ := id X
  refine lv_ishl hx hb hd ?_
  have h := k E p l e s m args below meth c H locs la X hP hS hl
  rw [List.map_cons, show eC E.2.1 (0, a * 2 ^ b.toNat) = .int (Int32.ofInt (a * 2 ^ b.toNat)) from rfl, ← e_shl a hc] at h
  exact h
theorem go_ishr {a b : Int} (hd : decode M.2.1 pc = .ok (.ishr, 1)) (ha : eI a) (hc : 0 ≤ b ∧ b < 32) (k : Go M (pc + 1) ls ((0, a / 2 ^ b.toNat) :: st) w r w') : Go M pc ls ((0, b) :: (0, a) :: st) w r w' := by
  intro E p l e s m args below meth c H locs la X hP hS hl
  obtain ⟨hx, hb, hml, hr, hlk, hown, hts, hK, hO, hA, hz⟩ := id X
  refine lv_ishr hx hb hd ?_
  have h := k E p l e s m args below meth c H locs la X hP hS hl
  rw [List.map_cons, show eC E.2.1 (0, a / 2 ^ b.toNat) = .int (Int32.ofInt (a / 2 ^ b.toNat)) from rfl, ← e_shr ha hc] at h
  exact h
theorem e_div {a b : Int} (ha : eI a) (hb : eI b) (h0 : 0 ≤ a) (h1 : 0 < b) : Int32.ofInt a / Int32.ofInt b = Int32.ofInt (a / b) := by
  rw [← Int.tdiv_eq_ediv_of_nonneg h0]
  exact (Int32.ofInt_tdiv (by have := ha.1; simpa using this) (by have := ha.2; have e : Int32.maxValue.toInt = 2147483647 := rfl; omega) (by have := hb.1; simpa using this) (by have := hb.2; have e : Int32.maxValue.toInt = 2147483647 := rfl; omega)).symm
theorem e_rem {a b : Int} (ha : eI a) (hb : eI b) (h0 : 0 ≤ a) (h1 : 0 < b) : Int32.ofInt a - Int32.ofInt a / Int32.ofInt b * Int32.ofInt b = Int32.ofInt (a % b) := by
  rw [e_div ha hb h0 h1, ← Int32.ofInt_mul, ← Int32.ofInt_sub]
  congr 1
  have := Int.emod_add_mul_ediv a b
  rw [Int.mul_comm] at this
  omega
theorem e_divJ {a b : Int} (ha : eJ a) (hb : eJ b) (h0 : 0 ≤ a) (h1 : 0 < b) : Int64.ofInt a / Int64.ofInt b = Int64.ofInt (a / b) := by
  rw [← Int.tdiv_eq_ediv_of_nonneg h0]
  exact (Int64.ofInt_tdiv (by have := ha.1; simpa using this) (by have := ha.2; have e : Int64.maxValue.toInt = 9223372036854775807 := rfl; omega) (by have := hb.1; simpa using this) (by have := hb.2; have e : Int64.maxValue.toInt = 9223372036854775807 := rfl; omega)).symm
theorem e_remJ {a b : Int} (ha : eJ a) (hb : eJ b) (h0 : 0 ≤ a) (h1 : 0 < b) : Int64.ofInt a - Int64.ofInt a / Int64.ofInt b * Int64.ofInt b = Int64.ofInt (a % b) := by
  rw [e_divJ ha hb h0 h1, ← Int64.ofInt_mul, ← Int64.ofInt_sub]
  congr 1
  have := Int.emod_add_mul_ediv a b
  rw [Int.mul_comm] at this
  omega
theorem go_idiv {a b : Int} (hd : decode M.2.1 pc = .ok (.idiv, 1)) (ha : eI a) (hb2 : eI b) (h0 : 0 ≤ a) (h1 : 0 < b) (k : Go M (pc + 1) ls ((0, a / b) :: st) w r w') : Go M pc ls ((0, b) :: (0, a) :: st) w r w' := by
  intro E p l e s m args below meth c H locs la X hP hS hl
  obtain ⟨hx, hb, hml, hr, hlk, hown, hts, hK, hO, hA, hz⟩ := id X
  refine lv_idiv hx hb hd (fun q => ?_) ?_
  · rw [show (0 : Int32) = Int32.ofInt 0 from rfl, e_eq hb2 (by decide)] at q
    omega
  · have h := k E p l e s m args below meth c H locs la X hP hS hl
    rw [List.map_cons, show eC E.2.1 (0, a / b) = .int (Int32.ofInt (a / b)) from rfl, ← e_div ha hb2 h0 h1] at h
    exact h
theorem go_irem {a b : Int} (hd : decode M.2.1 pc = .ok (.irem, 1)) (ha : eI a) (hb2 : eI b) (h0 : 0 ≤ a) (h1 : 0 < b) (k : Go M (pc + 1) ls ((0, a % b) :: st) w r w') : Go M pc ls ((0, b) :: (0, a) :: st) w r w' := by
  intro E p l e s m args below meth c H locs la X hP hS hl
  obtain ⟨hx, hb, hml, hr, hlk, hown, hts, hK, hO, hA, hz⟩ := id X
  refine lv_irem hx hb hd (fun q => ?_) ?_
  · rw [show (0 : Int32) = Int32.ofInt 0 from rfl, e_eq hb2 (by decide)] at q
    omega
  · have h := k E p l e s m args below meth c H locs la X hP hS hl
    rw [List.map_cons, show eC E.2.1 (0, a % b) = .int (Int32.ofInt (a % b)) from rfl, ← e_rem ha hb2 h0 h1] at h
    exact h
theorem go_ldiv {a b : Int} (hd : decode M.2.1 pc = .ok (.ldiv, 1)) (ha : eJ a) (hb2 : eJ b) (h0 : 0 ≤ a) (h1 : 0 < b) (k : Go M (pc + 1) ls ((1, a / b) :: st) w r w') : Go M pc ls ((1, b) :: (1, a) :: st) w r w' := by
  intro E p l e s m args below meth c H locs la X hP hS hl
  obtain ⟨hx, hb, hml, hr, hlk, hown, hts, hK, hO, hA, hz⟩ := id X
  refine lv_ldiv hx hb hd (fun q => ?_) ?_
  · rw [show (0 : Int64) = Int64.ofInt 0 from rfl, eJ_eq hb2 (by decide)] at q
    omega
  · have h := k E p l e s m args below meth c H locs la X hP hS hl
    rw [List.map_cons, show eC E.2.1 (1, a / b) = .long (Int64.ofInt (a / b)) from rfl, ← e_divJ ha hb2 h0 h1] at h
    exact h
theorem go_lrem {a b : Int} (hd : decode M.2.1 pc = .ok (.lrem, 1)) (ha : eJ a) (hb2 : eJ b) (h0 : 0 ≤ a) (h1 : 0 < b) (k : Go M (pc + 1) ls ((1, a % b) :: st) w r w') : Go M pc ls ((1, b) :: (1, a) :: st) w r w' := by
  intro E p l e s m args below meth c H locs la X hP hS hl
  obtain ⟨hx, hb, hml, hr, hlk, hown, hts, hK, hO, hA, hz⟩ := id X
  refine lv_lrem hx hb hd (fun q => ?_) ?_
  · rw [show (0 : Int64) = Int64.ofInt 0 from rfl, eJ_eq hb2 (by decide)] at q
    omega
  · have h := k E p l e s m args below meth c H locs la X hP hS hl
    rw [List.map_cons, show eC E.2.1 (1, a % b) = .long (Int64.ofInt (a % b)) from rfl, ← e_remJ ha hb2 h0 h1] at h
    exact h
def eByte (a : Int) : Int := (Int32.ofInt a).toInt8.toInt32.toInt
theorem go_i2l {a : Int} (hd : decode M.2.1 pc = .ok (.i2l, 1)) (ha : eI a) (k : Go M (pc + 1) ls ((1, a) :: st) w r w') : Go M pc ls ((0, a) :: st) w r w' := by
  intro E p l e s m args below meth c H locs la X hP hS hl
  obtain ⟨hx, hb, hml, hr, hlk, hown, hts, hK, hO, hA, hz⟩ := id X
  refine lv_i2l hx hb hd ?_ (k E p l e s m args below meth c H locs la X hP hS hl)
  apply Int64.toInt_inj.mp
  rw [Int32.toInt_toInt64, eI_toInt ha, eJ_toInt ⟨by have := ha.1; omega, by have := ha.2; omega⟩]
theorem go_l2i {a : Int} (hd : decode M.2.1 pc = .ok (.l2i, 1)) (k : Go M (pc + 1) ls ((0, a) :: st) w r w') : Go M pc ls ((1, a) :: st) w r w' := by
  intro E p l e s m args below meth c H locs la X hP hS hl
  obtain ⟨hx, hb, hml, hr, hlk, hown, hts, hK, hO, hA, hz⟩ := id X
  exact lv_l2i hx hb hd Int64.toInt32_ofInt (k E p l e s m args below meth c H locs la X hP hS hl)
theorem go_i2b {a : Int} (hd : decode M.2.1 pc = .ok (.i2b, 1)) (k : Go M (pc + 1) ls ((0, eByte a) :: st) w r w') : Go M pc ls ((0, a) :: st) w r w' := by
  intro E p l e s m args below meth c H locs la X hP hS hl
  obtain ⟨hx, hb, hml, hr, hlk, hown, hts, hK, hO, hA, hz⟩ := id X
  refine lv_i2b hx hb hd ?_ (k E p l e s m args below meth c H locs la X hP hS hl)
  unfold eByte
  rw [Int32.ofInt_toInt]
theorem go_dup {v : eV} (hd : decode M.2.1 pc = .ok (.dup, 1)) (hv : v.1 ≠ 1) (k : Go M (pc + 1) ls (v :: v :: st) w r w') : Go M pc ls (v :: st) w r w' := by
  intro E p l e s m args below meth c H locs la X hP hS hl
  obtain ⟨hx, hb, hml, hr, hlk, hown, hts, hK, hO, hA, hz⟩ := id X
  exact lv_dup hx hb hd (by rw [eC_cat]; simp [hv]) (k E p l e s m args below meth c H locs la X hP hS hl)
theorem go_dup2 {u v : eV} (hd : decode M.2.1 pc = .ok (.dup2, 1)) (hu : u.1 ≠ 1) (hv : v.1 ≠ 1) (k : Go M (pc + 1) ls (u :: v :: u :: v :: st) w r w') : Go M pc ls (u :: v :: st) w r w' := by
  intro E p l e s m args below meth c H locs la X hP hS hl
  obtain ⟨hx, hb, hml, hr, hlk, hown, hts, hK, hO, hA, hz⟩ := id X
  exact lv_dup2_11 hx hb hd (by rw [eC_cat]; simp [hu]) (by rw [eC_cat]; simp [hv]) (k E p l e s m args below meth c H locs la X hP hS hl)
theorem go_pop {v : eV} (hd : decode M.2.1 pc = .ok (.pop, 1)) (hv : v.1 ≠ 1) (k : Go M (pc + 1) ls st w r w') : Go M pc ls (v :: st) w r w' := by
  intro E p l e s m args below meth c H locs la X hP hS hl
  obtain ⟨hx, hb, hml, hr, hlk, hown, hts, hK, hO, hA, hz⟩ := id X
  exact lv_pop hx hb hd (by rw [eC_cat]; simp [hv]) (k E p l e s m args below meth c H locs la X hP hS hl)
theorem go_goto {off : Int} {tgt : Nat} (hd : decode M.2.1 pc = .ok (.goto off, 3)) (ht : (pc : Int) + off = (tgt : Int)) (k : Go M tgt ls st w r w') : Go M pc ls st w r w' := by
  intro E p l e s m args below meth c H locs la X hP hS hl
  obtain ⟨hx, hb, hml, hr, hlk, hown, hts, hK, hO, hA, hz⟩ := id X
  exact lv_goto hx hb hd ht (k E p l e s m args below meth c H locs la X hP hS hl)
theorem go_icmp_eqT {a b off : Int} {tgt : Nat} (hd : decode M.2.1 pc = .ok (.if_icmp .eq off, 3)) (ht : (pc : Int) + off = (tgt : Int)) (ha : eI a) (hb2 : eI b) (hc : a = b) (k : Go M tgt ls st w r w') : Go M pc ls ((0, b) :: (0, a) :: st) w r w' := by
  intro E p l e s m args below meth c H locs la X hP hS hl
  obtain ⟨hx, hb, hml, hr, hlk, hown, hts, hK, hO, hA, hz⟩ := id X
  exact lv_icmp_eq hx hb hd ht (fun _ => k E p l e s m args below meth c H locs la X hP hS hl) (fun q => absurd ((e_eq ha hb2).mpr hc) q)
theorem go_icmp_eqF {a b off : Int} {tgt : Nat} (hd : decode M.2.1 pc = .ok (.if_icmp .eq off, 3)) (ht : (pc : Int) + off = (tgt : Int)) (ha : eI a) (hb2 : eI b) (hc : ¬ (a = b)) (k : Go M (pc + 3) ls st w r w') : Go M pc ls ((0, b) :: (0, a) :: st) w r w' := by
  intro E p l e s m args below meth c H locs la X hP hS hl
  obtain ⟨hx, hb, hml, hr, hlk, hown, hts, hK, hO, hA, hz⟩ := id X
  exact lv_icmp_eq hx hb hd ht (fun q => absurd ((e_eq ha hb2).mp q) hc) (fun _ => k E p l e s m args below meth c H locs la X hP hS hl)
theorem go_icmp_neT {a b off : Int} {tgt : Nat} (hd : decode M.2.1 pc = .ok (.if_icmp .ne off, 3)) (ht : (pc : Int) + off = (tgt : Int)) (ha : eI a) (hb2 : eI b) (hc : ¬ a = b) (k : Go M tgt ls st w r w') : Go M pc ls ((0, b) :: (0, a) :: st) w r w' := by
  intro E p l e s m args below meth c H locs la X hP hS hl
  obtain ⟨hx, hb, hml, hr, hlk, hown, hts, hK, hO, hA, hz⟩ := id X
  exact lv_icmp_ne hx hb hd ht (fun _ => k E p l e s m args below meth c H locs la X hP hS hl) (fun q => absurd ((e_eq ha hb2).mp q) hc)
theorem go_icmp_neF {a b off : Int} {tgt : Nat} (hd : decode M.2.1 pc = .ok (.if_icmp .ne off, 3)) (ht : (pc : Int) + off = (tgt : Int)) (ha : eI a) (hb2 : eI b) (hc : ¬ ¬ a = b) (k : Go M (pc + 3) ls st w r w') : Go M pc ls ((0, b) :: (0, a) :: st) w r w' := by
  intro E p l e s m args below meth c H locs la X hP hS hl
  obtain ⟨hx, hb, hml, hr, hlk, hown, hts, hK, hO, hA, hz⟩ := id X
  exact lv_icmp_ne hx hb hd ht (fun q => absurd (mt (e_eq ha hb2).mpr q) hc) (fun _ => k E p l e s m args below meth c H locs la X hP hS hl)
theorem go_icmp_ltT {a b off : Int} {tgt : Nat} (hd : decode M.2.1 pc = .ok (.if_icmp .lt off, 3)) (ht : (pc : Int) + off = (tgt : Int)) (ha : eI a) (hb2 : eI b) (hc : a < b) (k : Go M tgt ls st w r w') : Go M pc ls ((0, b) :: (0, a) :: st) w r w' := by
  intro E p l e s m args below meth c H locs la X hP hS hl
  obtain ⟨hx, hb, hml, hr, hlk, hown, hts, hK, hO, hA, hz⟩ := id X
  exact lv_icmp_lt hx hb hd ht (fun _ => k E p l e s m args below meth c H locs la X hP hS hl) (fun q => absurd ((e_lt ha hb2).mpr hc) q)
theorem go_icmp_ltF {a b off : Int} {tgt : Nat} (hd : decode M.2.1 pc = .ok (.if_icmp .lt off, 3)) (ht : (pc : Int) + off = (tgt : Int)) (ha : eI a) (hb2 : eI b) (hc : ¬ (a < b)) (k : Go M (pc + 3) ls st w r w') : Go M pc ls ((0, b) :: (0, a) :: st) w r w' := by
  intro E p l e s m args below meth c H locs la X hP hS hl
  obtain ⟨hx, hb, hml, hr, hlk, hown, hts, hK, hO, hA, hz⟩ := id X
  exact lv_icmp_lt hx hb hd ht (fun q => absurd ((e_lt ha hb2).mp q) hc) (fun _ => k E p l e s m args below meth c H locs la X hP hS hl)
theorem go_icmp_geT {a b off : Int} {tgt : Nat} (hd : decode M.2.1 pc = .ok (.if_icmp .ge off, 3)) (ht : (pc : Int) + off = (tgt : Int)) (ha : eI a) (hb2 : eI b) (hc : b ≤ a) (k : Go M tgt ls st w r w') : Go M pc ls ((0, b) :: (0, a) :: st) w r w' := by
  intro E p l e s m args below meth c H locs la X hP hS hl
  obtain ⟨hx, hb, hml, hr, hlk, hown, hts, hK, hO, hA, hz⟩ := id X
  exact lv_icmp_ge hx hb hd ht (fun _ => k E p l e s m args below meth c H locs la X hP hS hl) (fun q => absurd ((e_le hb2 ha).mpr hc) q)
theorem go_icmp_geF {a b off : Int} {tgt : Nat} (hd : decode M.2.1 pc = .ok (.if_icmp .ge off, 3)) (ht : (pc : Int) + off = (tgt : Int)) (ha : eI a) (hb2 : eI b) (hc : ¬ (b ≤ a)) (k : Go M (pc + 3) ls st w r w') : Go M pc ls ((0, b) :: (0, a) :: st) w r w' := by
  intro E p l e s m args below meth c H locs la X hP hS hl
  obtain ⟨hx, hb, hml, hr, hlk, hown, hts, hK, hO, hA, hz⟩ := id X
  exact lv_icmp_ge hx hb hd ht (fun q => absurd ((e_le hb2 ha).mp q) hc) (fun _ => k E p l e s m args below meth c H locs la X hP hS hl)
theorem go_icmp_gtT {a b off : Int} {tgt : Nat} (hd : decode M.2.1 pc = .ok (.if_icmp .gt off, 3)) (ht : (pc : Int) + off = (tgt : Int)) (ha : eI a) (hb2 : eI b) (hc : b < a) (k : Go M tgt ls st w r w') : Go M pc ls ((0, b) :: (0, a) :: st) w r w' := by
  intro E p l e s m args below meth c H locs la X hP hS hl
  obtain ⟨hx, hb, hml, hr, hlk, hown, hts, hK, hO, hA, hz⟩ := id X
  exact lv_icmp_gt hx hb hd ht (fun _ => k E p l e s m args below meth c H locs la X hP hS hl) (fun q => absurd ((e_lt hb2 ha).mpr hc) q)
theorem go_icmp_gtF {a b off : Int} {tgt : Nat} (hd : decode M.2.1 pc = .ok (.if_icmp .gt off, 3)) (ht : (pc : Int) + off = (tgt : Int)) (ha : eI a) (hb2 : eI b) (hc : ¬ (b < a)) (k : Go M (pc + 3) ls st w r w') : Go M pc ls ((0, b) :: (0, a) :: st) w r w' := by
  intro E p l e s m args below meth c H locs la X hP hS hl
  obtain ⟨hx, hb, hml, hr, hlk, hown, hts, hK, hO, hA, hz⟩ := id X
  exact lv_icmp_gt hx hb hd ht (fun q => absurd ((e_lt hb2 ha).mp q) hc) (fun _ => k E p l e s m args below meth c H locs la X hP hS hl)
theorem go_icmp_leT {a b off : Int} {tgt : Nat} (hd : decode M.2.1 pc = .ok (.if_icmp .le off, 3)) (ht : (pc : Int) + off = (tgt : Int)) (ha : eI a) (hb2 : eI b) (hc : a ≤ b) (k : Go M tgt ls st w r w') : Go M pc ls ((0, b) :: (0, a) :: st) w r w' := by
  intro E p l e s m args below meth c H locs la X hP hS hl
  obtain ⟨hx, hb, hml, hr, hlk, hown, hts, hK, hO, hA, hz⟩ := id X
  exact lv_icmp_le hx hb hd ht (fun _ => k E p l e s m args below meth c H locs la X hP hS hl) (fun q => absurd ((e_le ha hb2).mpr hc) q)
theorem go_icmp_leF {a b off : Int} {tgt : Nat} (hd : decode M.2.1 pc = .ok (.if_icmp .le off, 3)) (ht : (pc : Int) + off = (tgt : Int)) (ha : eI a) (hb2 : eI b) (hc : ¬ (a ≤ b)) (k : Go M (pc + 3) ls st w r w') : Go M pc ls ((0, b) :: (0, a) :: st) w r w' := by
  intro E p l e s m args below meth c H locs la X hP hS hl
  obtain ⟨hx, hb, hml, hr, hlk, hown, hts, hK, hO, hA, hz⟩ := id X
  exact lv_icmp_le hx hb hd ht (fun q => absurd ((e_le ha hb2).mp q) hc) (fun _ => k E p l e s m args below meth c H locs la X hP hS hl)
theorem go_if_eqT {a off : Int} {tgt : Nat} (hd : decode M.2.1 pc = .ok (.ifCond .eq off, 3)) (ht : (pc : Int) + off = (tgt : Int)) (ha : eI a) (hc : a = 0) (k : Go M tgt ls st w r w') : Go M pc ls ((0, a) :: st) w r w' := by
  intro E p l e s m args below meth c H locs la X hP hS hl
  obtain ⟨hx, hb, hml, hr, hlk, hown, hts, hK, hO, hA, hz⟩ := id X
  have eI_0 : eI 0 := by decide
  exact lv_if_eq hx hb hd ht (fun _ => k E p l e s m args below meth c H locs la X hP hS hl) (fun q => absurd ((e_eq ha eI_0).mpr hc) q)
theorem go_if_eqF {a off : Int} {tgt : Nat} (hd : decode M.2.1 pc = .ok (.ifCond .eq off, 3)) (ht : (pc : Int) + off = (tgt : Int)) (ha : eI a) (hc : ¬ (a = 0)) (k : Go M (pc + 3) ls st w r w') : Go M pc ls ((0, a) :: st) w r w' := by
  intro E p l e s m args below meth c H locs la X hP hS hl
  obtain ⟨hx, hb, hml, hr, hlk, hown, hts, hK, hO, hA, hz⟩ := id X
  have eI_0 : eI 0 := by decide
  exact lv_if_eq hx hb hd ht (fun q => absurd ((e_eq ha eI_0).mp q) hc) (fun _ => k E p l e s m args below meth c H locs la X hP hS hl)
theorem go_if_neT {a off : Int} {tgt : Nat} (hd : decode M.2.1 pc = .ok (.ifCond .ne off, 3)) (ht : (pc : Int) + off = (tgt : Int)) (ha : eI a) (hc : ¬ a = 0) (k : Go M tgt ls st w r w') : Go M pc ls ((0, a) :: st) w r w' := by
  intro E p l e s m args below meth c H locs la X hP hS hl
  obtain ⟨hx, hb, hml, hr, hlk, hown, hts, hK, hO, hA, hz⟩ := id X
  have eI_0 : eI 0 := by decide
  exact lv_if_ne hx hb hd ht (fun _ => k E p l e s m args below meth c H locs la X hP hS hl) (fun q => absurd ((e_eq ha eI_0).mp q) hc)
theorem go_if_neF {a off : Int} {tgt : Nat} (hd : decode M.2.1 pc = .ok (.ifCond .ne off, 3)) (ht : (pc : Int) + off = (tgt : Int)) (ha : eI a) (hc : ¬ ¬ a = 0) (k : Go M (pc + 3) ls st w r w') : Go M pc ls ((0, a) :: st) w r w' := by
  intro E p l e s m args below meth c H locs la X hP hS hl
  obtain ⟨hx, hb, hml, hr, hlk, hown, hts, hK, hO, hA, hz⟩ := id X
  have eI_0 : eI 0 := by decide
  exact lv_if_ne hx hb hd ht (fun q => absurd (mt (e_eq ha eI_0).mpr q) hc) (fun _ => k E p l e s m args below meth c H locs la X hP hS hl)
theorem go_if_ltT {a off : Int} {tgt : Nat} (hd : decode M.2.1 pc = .ok (.ifCond .lt off, 3)) (ht : (pc : Int) + off = (tgt : Int)) (ha : eI a) (hc : a < 0) (k : Go M tgt ls st w r w') : Go M pc ls ((0, a) :: st) w r w' := by
  intro E p l e s m args below meth c H locs la X hP hS hl
  obtain ⟨hx, hb, hml, hr, hlk, hown, hts, hK, hO, hA, hz⟩ := id X
  have eI_0 : eI 0 := by decide
  exact lv_if_lt hx hb hd ht (fun _ => k E p l e s m args below meth c H locs la X hP hS hl) (fun q => absurd ((e_lt ha eI_0).mpr hc) q)
theorem go_if_ltF {a off : Int} {tgt : Nat} (hd : decode M.2.1 pc = .ok (.ifCond .lt off, 3)) (ht : (pc : Int) + off = (tgt : Int)) (ha : eI a) (hc : ¬ (a < 0)) (k : Go M (pc + 3) ls st w r w') : Go M pc ls ((0, a) :: st) w r w' := by
  intro E p l e s m args below meth c H locs la X hP hS hl
  obtain ⟨hx, hb, hml, hr, hlk, hown, hts, hK, hO, hA, hz⟩ := id X
  have eI_0 : eI 0 := by decide
  exact lv_if_lt hx hb hd ht (fun q => absurd ((e_lt ha eI_0).mp q) hc) (fun _ => k E p l e s m args below meth c H locs la X hP hS hl)
theorem go_if_geT {a off : Int} {tgt : Nat} (hd : decode M.2.1 pc = .ok (.ifCond .ge off, 3)) (ht : (pc : Int) + off = (tgt : Int)) (ha : eI a) (hc : 0 ≤ a) (k : Go M tgt ls st w r w') : Go M pc ls ((0, a) :: st) w r w' := by
  intro E p l e s m args below meth c H locs la X hP hS hl
  obtain ⟨hx, hb, hml, hr, hlk, hown, hts, hK, hO, hA, hz⟩ := id X
  have eI_0 : eI 0 := by decide
  exact lv_if_ge hx hb hd ht (fun _ => k E p l e s m args below meth c H locs la X hP hS hl) (fun q => absurd ((e_le eI_0 ha).mpr hc) q)
theorem go_if_geF {a off : Int} {tgt : Nat} (hd : decode M.2.1 pc = .ok (.ifCond .ge off, 3)) (ht : (pc : Int) + off = (tgt : Int)) (ha : eI a) (hc : ¬ (0 ≤ a)) (k : Go M (pc + 3) ls st w r w') : Go M pc ls ((0, a) :: st) w r w' := by
  intro E p l e s m args below meth c H locs la X hP hS hl
  obtain ⟨hx, hb, hml, hr, hlk, hown, hts, hK, hO, hA, hz⟩ := id X
  have eI_0 : eI 0 := by decide
  exact lv_if_ge hx hb hd ht (fun q => absurd ((e_le eI_0 ha).mp q) hc) (fun _ => k E p l e s m args below meth c H locs la X hP hS hl)
theorem go_if_gtT {a off : Int} {tgt : Nat} (hd : decode M.2.1 pc = .ok (.ifCond .gt off, 3)) (ht : (pc : Int) + off = (tgt : Int)) (ha : eI a) (hc : 0 < a) (k : Go M tgt ls st w r w') : Go M pc ls ((0, a) :: st) w r w' := by
  intro E p l e s m args below meth c H locs la X hP hS hl
  obtain ⟨hx, hb, hml, hr, hlk, hown, hts, hK, hO, hA, hz⟩ := id X
  have eI_0 : eI 0 := by decide
  exact lv_if_gt hx hb hd ht (fun _ => k E p l e s m args below meth c H locs la X hP hS hl) (fun q => absurd ((e_lt eI_0 ha).mpr hc) q)
theorem go_if_gtF {a off : Int} {tgt : Nat} (hd : decode M.2.1 pc = .ok (.ifCond .gt off, 3)) (ht : (pc : Int) + off = (tgt : Int)) (ha : eI a) (hc : ¬ (0 < a)) (k : Go M (pc + 3) ls st w r w') : Go M pc ls ((0, a) :: st) w r w' := by
  intro E p l e s m args below meth c H locs la X hP hS hl
  obtain ⟨hx, hb, hml, hr, hlk, hown, hts, hK, hO, hA, hz⟩ := id X
  have eI_0 : eI 0 := by decide
  exact lv_if_gt hx hb hd ht (fun q => absurd ((e_lt eI_0 ha).mp q) hc) (fun _ => k E p l e s m args below meth c H locs la X hP hS hl)
theorem go_if_leT {a off : Int} {tgt : Nat} (hd : decode M.2.1 pc = .ok (.ifCond .le off, 3)) (ht : (pc : Int) + off = (tgt : Int)) (ha : eI a) (hc : a ≤ 0) (k : Go M tgt ls st w r w') : Go M pc ls ((0, a) :: st) w r w' := by
  intro E p l e s m args below meth c H locs la X hP hS hl
  obtain ⟨hx, hb, hml, hr, hlk, hown, hts, hK, hO, hA, hz⟩ := id X
  have eI_0 : eI 0 := by decide
  exact lv_if_le hx hb hd ht (fun _ => k E p l e s m args below meth c H locs la X hP hS hl) (fun q => absurd ((e_le ha eI_0).mpr hc) q)
theorem go_if_leF {a off : Int} {tgt : Nat} (hd : decode M.2.1 pc = .ok (.ifCond .le off, 3)) (ht : (pc : Int) + off = (tgt : Int)) (ha : eI a) (hc : ¬ (a ≤ 0)) (k : Go M (pc + 3) ls st w r w') : Go M pc ls ((0, a) :: st) w r w' := by
  intro E p l e s m args below meth c H locs la X hP hS hl
  obtain ⟨hx, hb, hml, hr, hlk, hown, hts, hK, hO, hA, hz⟩ := id X
  have eI_0 : eI 0 := by decide
  exact lv_if_le hx hb hd ht (fun q => absurd ((e_le ha eI_0).mp q) hc) (fun _ => k E p l e s m args below meth c H locs la X hP hS hl)
def eCmp (a b : Int) : Int := if b < a then 1 else if a = b then 0 else -1
theorem eCmp_eI (a b : Int) : eI (eCmp a b) := by unfold eCmp; split <;> (try split) <;> decide
theorem go_lcmp {a b : Int} (hd : decode M.2.1 pc = .ok (.lcmp, 1)) (ha : eJ a) (hb2 : eJ b) (k : Go M (pc + 1) ls ((0, eCmp a b) :: st) w r w') : Go M pc ls ((1, b) :: (1, a) :: st) w r w' := by
  intro E p l e s m args below meth c H locs la X hP hS hl
  obtain ⟨hx, hb, hml, hr, hlk, hown, hts, hK, hO, hA, hz⟩ := id X
  refine W.lcmp hx hb hd ?_
  have h := k E p l e s m args below meth c H locs la X hP hS hl
  have e : lg_cmp (Int64.ofInt a) (Int64.ofInt b) = Int32.ofInt (eCmp a b) := by
    unfold lg_cmp eCmp
    simp only [gt_iff_lt, eJ_lt hb2 ha, eJ_eq ha hb2, eJ_lt ha hb2]
    repeat (first | rfl | split | omega)
  rw [e]
  exact h
theorem eCmp_eq (a b : Int) : (eCmp a b = 0) ↔ a = b := by unfold eCmp; split <;> (try split) <;> omega
theorem go_leqT {a b off : Int} {tgt : Nat} (hd : decode M.2.1 pc = .ok (.lcmp, 1)) (hd2 : decode M.2.1 (pc + 1) = .ok (.ifCond .eq off, 3)) (ht : ((pc + 1 : Nat) : Int) + off = (tgt : Int)) (ha : eJ a) (hb2 : eJ b) (hc : a = b) (k : Go M tgt ls st w r w') : Go M pc ls ((1, b) :: (1, a) :: st) w r w' :=
  go_lcmp hd ha hb2 (go_if_eqT hd2 ht (eCmp_eI a b) ((eCmp_eq a b).mpr hc) k)
theorem go_leqF {a b off : Int} {tgt : Nat} (hd : decode M.2.1 pc = .ok (.lcmp, 1)) (hd2 : decode M.2.1 (pc + 1) = .ok (.ifCond .eq off, 3)) (ht : ((pc + 1 : Nat) : Int) + off = (tgt : Int)) (ha : eJ a) (hb2 : eJ b) (hc : ¬ (a = b)) (k : Go M (pc + 1 + 3) ls st w r w') : Go M pc ls ((1, b) :: (1, a) :: st) w r w' :=
  go_lcmp hd ha hb2 (go_if_eqF hd2 ht (eCmp_eI a b) (mt (eCmp_eq a b).mp hc) k)
theorem eCmp_ne (a b : Int) : (¬ eCmp a b = 0) ↔ ¬ a = b := by unfold eCmp; split <;> (try split) <;> omega
theorem go_lneT {a b off : Int} {tgt : Nat} (hd : decode M.2.1 pc = .ok (.lcmp, 1)) (hd2 : decode M.2.1 (pc + 1) = .ok (.ifCond .ne off, 3)) (ht : ((pc + 1 : Nat) : Int) + off = (tgt : Int)) (ha : eJ a) (hb2 : eJ b) (hc : ¬ a = b) (k : Go M tgt ls st w r w') : Go M pc ls ((1, b) :: (1, a) :: st) w r w' :=
  go_lcmp hd ha hb2 (go_if_neT hd2 ht (eCmp_eI a b) ((eCmp_ne a b).mpr hc) k)
theorem go_lneF {a b off : Int} {tgt : Nat} (hd : decode M.2.1 pc = .ok (.lcmp, 1)) (hd2 : decode M.2.1 (pc + 1) = .ok (.ifCond .ne off, 3)) (ht : ((pc + 1 : Nat) : Int) + off = (tgt : Int)) (ha : eJ a) (hb2 : eJ b) (hc : ¬ (¬ a = b)) (k : Go M (pc + 1 + 3) ls st w r w') : Go M pc ls ((1, b) :: (1, a) :: st) w r w' :=
  go_lcmp hd ha hb2 (go_if_neF hd2 ht (eCmp_eI a b) (mt (eCmp_ne a b).mp hc) k)
theorem eCmp_lt (a b : Int) : (eCmp a b < 0) ↔ a < b := by unfold eCmp; split <;> (try split) <;> omega
theorem go_lltT {a b off : Int} {tgt : Nat} (hd : decode M.2.1 pc = .ok (.lcmp, 1)) (hd2 : decode M.2.1 (pc + 1) = .ok (.ifCond .lt off, 3)) (ht : ((pc + 1 : Nat) : Int) + off = (tgt : Int)) (ha : eJ a) (hb2 : eJ b) (hc : a < b) (k : Go M tgt ls st w r w') : Go M pc ls ((1, b) :: (1, a) :: st) w r w' :=
  go_lcmp hd ha hb2 (go_if_ltT hd2 ht (eCmp_eI a b) ((eCmp_lt a b).mpr hc) k)
theorem go_lltF {a b off : Int} {tgt : Nat} (hd : decode M.2.1 pc = .ok (.lcmp, 1)) (hd2 : decode M.2.1 (pc + 1) = .ok (.ifCond .lt off, 3)) (ht : ((pc + 1 : Nat) : Int) + off = (tgt : Int)) (ha : eJ a) (hb2 : eJ b) (hc : ¬ (a < b)) (k : Go M (pc + 1 + 3) ls st w r w') : Go M pc ls ((1, b) :: (1, a) :: st) w r w' :=
  go_lcmp hd ha hb2 (go_if_ltF hd2 ht (eCmp_eI a b) (mt (eCmp_lt a b).mp hc) k)
theorem eCmp_ge (a b : Int) : (0 ≤ eCmp a b) ↔ b ≤ a := by unfold eCmp; split <;> (try split) <;> omega
theorem go_lgeT {a b off : Int} {tgt : Nat} (hd : decode M.2.1 pc = .ok (.lcmp, 1)) (hd2 : decode M.2.1 (pc + 1) = .ok (.ifCond .ge off, 3)) (ht : ((pc + 1 : Nat) : Int) + off = (tgt : Int)) (ha : eJ a) (hb2 : eJ b) (hc : b ≤ a) (k : Go M tgt ls st w r w') : Go M pc ls ((1, b) :: (1, a) :: st) w r w' :=
  go_lcmp hd ha hb2 (go_if_geT hd2 ht (eCmp_eI a b) ((eCmp_ge a b).mpr hc) k)
theorem go_lgeF {a b off : Int} {tgt : Nat} (hd : decode M.2.1 pc = .ok (.lcmp, 1)) (hd2 : decode M.2.1 (pc + 1) = .ok (.ifCond .ge off, 3)) (ht : ((pc + 1 : Nat) : Int) + off = (tgt : Int)) (ha : eJ a) (hb2 : eJ b) (hc : ¬ (b ≤ a)) (k : Go M (pc + 1 + 3) ls st w r w') : Go M pc ls ((1, b) :: (1, a) :: st) w r w' :=
  go_lcmp hd ha hb2 (go_if_geF hd2 ht (eCmp_eI a b) (mt (eCmp_ge a b).mp hc) k)
theorem eCmp_gt (a b : Int) : (0 < eCmp a b) ↔ b < a := by unfold eCmp; split <;> (try split) <;> omega
theorem go_lgtT {a b off : Int} {tgt : Nat} (hd : decode M.2.1 pc = .ok (.lcmp, 1)) (hd2 : decode M.2.1 (pc + 1) = .ok (.ifCond .gt off, 3)) (ht : ((pc + 1 : Nat) : Int) + off = (tgt : Int)) (ha : eJ a) (hb2 : eJ b) (hc : b < a) (k : Go M tgt ls st w r w') : Go M pc ls ((1, b) :: (1, a) :: st) w r w' :=
  go_lcmp hd ha hb2 (go_if_gtT hd2 ht (eCmp_eI a b) ((eCmp_gt a b).mpr hc) k)
theorem go_lgtF {a b off : Int} {tgt : Nat} (hd : decode M.2.1 pc = .ok (.lcmp, 1)) (hd2 : decode M.2.1 (pc + 1) = .ok (.ifCond .gt off, 3)) (ht : ((pc + 1 : Nat) : Int) + off = (tgt : Int)) (ha : eJ a) (hb2 : eJ b) (hc : ¬ (b < a)) (k : Go M (pc + 1 + 3) ls st w r w') : Go M pc ls ((1, b) :: (1, a) :: st) w r w' :=
  go_lcmp hd ha hb2 (go_if_gtF hd2 ht (eCmp_eI a b) (mt (eCmp_gt a b).mp hc) k)
theorem eCmp_le (a b : Int) : (eCmp a b ≤ 0) ↔ a ≤ b := by unfold eCmp; split <;> (try split) <;> omega
theorem go_lleT {a b off : Int} {tgt : Nat} (hd : decode M.2.1 pc = .ok (.lcmp, 1)) (hd2 : decode M.2.1 (pc + 1) = .ok (.ifCond .le off, 3)) (ht : ((pc + 1 : Nat) : Int) + off = (tgt : Int)) (ha : eJ a) (hb2 : eJ b) (hc : a ≤ b) (k : Go M tgt ls st w r w') : Go M pc ls ((1, b) :: (1, a) :: st) w r w' :=
  go_lcmp hd ha hb2 (go_if_leT hd2 ht (eCmp_eI a b) ((eCmp_le a b).mpr hc) k)
theorem go_lleF {a b off : Int} {tgt : Nat} (hd : decode M.2.1 pc = .ok (.lcmp, 1)) (hd2 : decode M.2.1 (pc + 1) = .ok (.ifCond .le off, 3)) (ht : ((pc + 1 : Nat) : Int) + off = (tgt : Int)) (ha : eJ a) (hb2 : eJ b) (hc : ¬ (a ≤ b)) (k : Go M (pc + 1 + 3) ls st w r w') : Go M pc ls ((1, b) :: (1, a) :: st) w r w' :=
  go_lcmp hd ha hb2 (go_if_leF hd2 ht (eCmp_eI a b) (mt (eCmp_le a b).mp hc) k)
theorem go_tabIn {dflt lo hi off a : Int} {offs : Array Int} {len tgt : Nat} (v : Nat) (hd : decode M.2.1 pc = .ok (.tableswitch dflt lo hi offs, len)) (hq : eI (lo + v) ∧ lo + v ≤ hi) (ho : offs[v]? = some off) (ht : (pc : Int) + off = (tgt : Int)) (hc : a = lo + v) (k : Go M tgt ls st w r w') : Go M pc ls ((0, a) :: st) w r w' := by
  intro E p l e s m args below meth c H locs la X hP hS hl
  obtain ⟨hx, hb, hml, hr, hlk, hown, hts, hK, hO, hA, hz⟩ := id X
  subst hc
  have e9 := eI_toInt hq.1
  exact lv_tableIn hx hb hd (by rw [e9]; omega) (by rw [e9]; omega) (by rw [e9, show (lo + (v : Int) - lo).toNat = v by omega]; exact ho) ht (k E p l e s m args below meth c H locs la X hP hS hl)
theorem go_tabOut {dflt lo hi a : Int} {offs : Array Int} {len tgt : Nat} (hd : decode M.2.1 pc = .ok (.tableswitch dflt lo hi offs, len)) (ha : eI a) (ht : (pc : Int) + dflt = (tgt : Int)) (hc : a < lo ∨ hi < a) (k : Go M tgt ls st w r w') : Go M pc ls ((0, a) :: st) w r w' := by
  intro E p l e s m args below meth c H locs la X hP hS hl
  obtain ⟨hx, hb, hml, hr, hlk, hown, hts, hK, hO, hA, hz⟩ := id X
  exact lv_tableOut hx hb hd (by rw [eI_toInt ha]; exact hc) ht (k E p l e s m args below meth c H locs la X hP hS hl)
end RU
