/-! THE ENGINE: values, worlds, and two judgements over them. A value: (0, n) the int n, (1, n) the long n, (k + 2, _) the cell k. A world: of each cell what each place holds. -/
abbrev eV : Type := Nat × Int
abbrev eW : Type := Nat → Int → Int
abbrev eL : Type := List (Nat × eV)
/-- a method: name, code, locals, what it returns, frames and words that its calls need -/
abbrev eM : Type := MethodName × ByteArray × Nat × Option FieldType × Nat × Nat
/-- where things are: classes and slots, the cells' addresses, the classes of byte and int rows, the size of the heap at the start -/
abbrev eE : Type := va_G × (Nat → Nat) × ClassId × ClassId × Nat
abbrev eR (k : Nat) : eV := (k + 2, 0)
abbrev eI (n : Int) : Prop := -2147483648 ≤ n ∧ n < 2147483648
abbrev eJ (n : Int) : Prop := -9223372036854775808 ≤ n ∧ n < 9223372036854775808
def eC (ad : Nat → Nat) (v : eV) : Value := match v.1 with
  | 0 => .int (Int32.ofInt v.2)
  | 1 => .long (Int64.ofInt v.2)
  | k + 2 => .ref (ad k)
def eKd (k : Nat) : Nat × Nat := eLay.getD k (99, 0)
def eRf (k j : Nat) : Nat := (eRefs.getD k []).getD j 0
def eTg (ci j : Nat) : Nat := (eTags.getD ci []).getD j 0
/-- what a field holds -/
def eFv (k : Nat) (f : Int → Int) (ci j : Nat) : eV := if eTg ci j = 2 then eR (eRf k j) else (eTg ci j, f j)
def eFs (ad : Nat → Nat) (k : Nat) (f : Int → Int) (ci : Nat) : List Value := (List.range (eTags.getD ci []).length).map (fun j => eC ad (eFv k f ci j))
def eEn (E : eE) (k : Nat) (f : Int → Int) : va_E :=
  if (eKd k).1 = 9 then .inl (E.2.2.1, (eKd k).2, .inl (fun j : Nat => Int32.ofInt (f j)))
  else if (eKd k).1 = 10 then .inl (E.2.2.2.1, (eKd k).2, .inl (fun j : Nat => Int32.ofInt (f j)))
  else .inr ((eKd k).1, eFs E.2.1 k f (eKd k).1)
def eWs (E : eE) (w : eW) : va_W := (List.range eN).map (fun k => (E.2.1 k, eEn E k (w k)))
/-- what may change: the new, the law's own row (cell 99) aside -/
def eA (E : eE) : Nat → Prop := fun q => E.2.2.2.2 ≤ q ∧ q ≠ E.2.1 99
def eTy (E : eE) : List (ClassId × FieldType) := [(E.2.2.1, .byte), (E.2.2.2.1, .int)]
def eRm (M : eM) : Room := { frames := M.2.2.2.2.1, cells := 0, slots := 0, locals := M.2.2.2.2.2 }
def eWd (M : eM) : List Cond := Cond.code M.1 M.2.1 M.2.2.1 M.2.2.2.1 :: eTb
/-- the cells lie apart, and are new -/
def eAd (E : eE) : Prop := (∀ i j : Nat, i < eN → j < eN → E.2.1 i = E.2.1 j → i = j) ∧ ∀ i : Nat, i < eN → E.2.2.2.2 ≤ E.2.1 i ∧ E.2.1 i ≠ E.2.1 99
def eQt (i : Int) : Int := if i = 1 then 2520 else if i = 2 then 1260 else if i = 3 then 840 else if i = 4 then 630 else if i = 5 then 504 else if i = 6 then 420 else if i = 7 then 360 else if i = 8 then 315 else if i = 9 then 280 else 0
/-- the texts: class, entry, text, cell -/
def eSr : List (String × Nat × String × Nat) := [("EaveRoofs$Reader", 51, "house", 110), ("EaveRoofs$Reader", 72, "speed", 111), ("EaveRoofs$Reader", 77, "mark", 112), ("EaveRoofsModel", 177, "house", 113), ("EaveRoofsModel", 186, "speed", 114), ("EaveRoofsModel", 199, "mark", 115)]
def eSb : List (List Int32) := [[104, 111, 117, 115, 101], [115, 112, 101, 101, 100], [109, 97, 114, 107], [104, 111, 117, 115, 101], [115, 112, 101, 101, 100], [109, 97, 114, 107]]
/-- what lies in the heap from before, and stays: a table, texts, statics -/
def eOld (E : eE) (U : State) : Prop :=
  va_Z "EaveRoofs$Roof" "QUARTER_TIMES" "[I" (.ref (E.2.1 100)) (eA E) U U.heap ∧ va_T .int (E.2.1 100) 10 (fun j : Nat => .int (Int32.ofInt (eQt j))) (eA E) U U.heap ∧
  va_Z "java/lang/String" "COMPACT_STRINGS" "Z" (.int 1) (eA E) U U.heap ∧ va_Zq "jdk/internal/util/Preconditions" "SIOOBE_FORMATTER" "Ljava/util/function/BiFunction;" (eA E) U U.heap ∧
  (∀ q ∈ eSr, vk_R q.1 q.2.1 q.2.2.1 (E.2.1 q.2.2.2) U) ∧
  (∀ i : Nat, i < 6 → va_O "java/lang/String" (E.2.1 (110 + i)) (eA E) U U.heap ∧ va_OF "java/lang/String" "coder" "B" (.int 0) (E.2.1 (110 + i)) (eA E) U U.heap ∧ va_OF "java/lang/String" "value" "[B" (.ref (E.2.1 (120 + i))) (E.2.1 (110 + i)) (eA E) U U.heap ∧ va_T .byte (E.2.1 (120 + i)) (eSb.getD i []).length (fun j => .int ((eSb.getD i []).getD j 0)) (eA E) U U.heap) ∧
  ∀ (a : String) (i : Nat) (b n d h : String), Cond.fieldLinkNest a i b n d h ∈ lw_tbl → va_Nw (.fieldLinkNest a i b n d h) U
theorem eOld.move {E : eE} {s U : State} {H : Heap} {locs : List Loc} (h : eOld E s) (hW : s.WarmedH U.vm) (hH : U.heap = H) (hS : va_S (eA E) s.heap H locs) : eOld E U := by
  obtain ⟨h1, h2, h3, h4, h5, h6, h7⟩ := h
  have hk : ∀ a : Nat, a < s.heap.size → ¬ eA E a → U.heap[a]? = s.heap[a]? := fun a g1 g2 => by rw [hH]; exact hS.2.1 a g1 g2
  refine ⟨(va_Z.moved hW.alike h1).kept hk, (va_T.moved hW.alike h2).kept hk, (va_Z.moved hW.alike h3).kept hk, (va_Zq.moved hW.alike h4).kept hk, fun q hq => (h5 q hq).warm hW, fun i hi => ?_, fun a i b n d h g => va_Nw.warmF hW (h7 a i b n d h g)⟩
  obtain ⟨g1, g2, g3, g4⟩ := h6 i hi
  exact ⟨(va_O.moved hW.alike g1).kept hk, (va_OF.moved hW.alike g2).kept hk, (va_OF.moved hW.alike g3).kept hk, (va_T.moved hW.alike g4).kept hk⟩
/-- how a method ends -/
def eQ (E : eE) (r : Option eV) (w' : eW) : Array Value → State → Outcome → State → Prop := fun _ st oc t => oc = .returned (r.map (eC E.2.1)) ∧ va_P E.1 vwCl (eWs E w') t.heap ∧ va_F (eA E) st t
/-- how it begins -/
def ePre (E : eE) (w : eW) : State → Prop := fun U => E.2.2.2.2 ≤ U.heap.size ∧ va_P E.1 vwCl (eWs E w) U.heap ∧ va_K E.1 vwCl (eTy E) U ∧ eOld E U
/-- A CALL: the method, called with args in the world w, returns r, and leaves the world w' -/
def Cal (M : eM) (as : List eV) (w : eW) (r : Option eV) (w' : eW) : Prop :=
  ∀ (E : eE) (l : Launch), eAd E → Met l M.1 (eWd M) (eRm M) (va_Pc (as.map (eC E.2.1)) (ePre E w)) (eQ E r w') 0 0 (eA E)
/-- what is fixed while a method runs -/
def eX (E : eE) (M : eM) (p : Program) (s : State) (m : MethodId) (args : Array Value) (meth : Method) (c : Code) : Prop :=
  p.tables.exec = Jvm.exec ∧ c.code = M.2.1 ∧ c.maxLocals = M.2.2.1 ∧ meth.sig.returnType = M.2.2.2.1 ∧ meth.locks = false ∧ s.vm.findClass M.1.cls = some m.cls ∧ (∀ w ∈ eTb, w.before args s = true) ∧ va_K E.1 vwCl (eTy E) s ∧ eOld E s ∧ eAd E ∧ E.2.2.2.2 ≤ s.heap.size
/-- GOES ON: the method, at pc with these locals, this stack and this world, comes to return r, and leaves the world w' -/
def Go (M : eM) (pc : Nat) (ls : eL) (st : List eV) (w : eW) (r : Option eV) (w' : eW) : Prop :=
  ∀ (E : eE) (p : Program) (l : Launch) (e : Env) (s : State) (m : MethodId) (args : Array Value) (below : List Frame) (meth : Method) (c : Code) (H : Heap) (locs : List Loc) (la : Array Slot),
    eX E M p s m args meth c → va_P E.1 vwCl (eWs E w) H → va_S (eA E) s.heap H locs → lv_has la M.2.2.1 (ls.map fun q => (q.1, eC E.2.1 q.2)) →
    W p l e (eRm M) s m args below meth c H locs 0 0 (MQ below (eQ E r w') args s 0 0 (eA E)) (F0 m pc la (st.map (eC E.2.1)))
theorem eWs_len (E : eE) (w : eW) : (eWs E w).length = eN := by simp [eWs]
theorem eWs_get (E : eE) (w : eW) {o : Nat} (ho : o < eN) : (eWs E w)[o]? = some (E.2.1 o, eEn E o (w o)) := by
  unfold eWs
  rw [List.getElem?_map, List.getElem?_range ho]
  rfl
theorem eWs_D {E : eE} (h : eAd E) (w : eW) : va_D (eA E) (eWs E w) := by
  have key : ∀ (k : Nat) (q : Nat × va_E), (eWs E w)[k]? = some q → k < eN ∧ q.1 = E.2.1 k := by
    intro k q hk
    have hl : k < eN := by rw [← eWs_len E w]; exact (List.getElem?_eq_some_iff.mp hk).1
    rw [eWs_get E w hl] at hk
    cases hk
    exact ⟨hl, rfl⟩
  refine ⟨fun i j p q hi hj e => ?_, fun k q hk => ?_⟩
  · obtain ⟨a1, a2⟩ := key i p hi
    obtain ⟨b1, b2⟩ := key j q hj
    exact h.1 i j a1 b1 (by rw [← a2, ← b2]; exact e)
  · obtain ⟨a1, a2⟩ := key k q hk
    rw [a2]
    exact h.2 k a1
/-- a place of a cell written -/
def eU (w : eW) (o : Nat) (i v : Int) : eW := fun k => if k = o then (fun j => if j = i then v else w o j) else w k
theorem eU_ne {w : eW} {o k : Nat} {i v : Int} (h : k ≠ o) : eU w o i v k = w k := by simp [eU, h]
theorem eU_at (w : eW) (o : Nat) (i v : Int) : eU w o i v o = fun j => if j = i then v else w o j := by simp [eU]
theorem eWs_set {E : eE} {w w' : eW} {o : Nat} {en : va_E} (ho : o < eN) (hne : ∀ k : Nat, k ≠ o → w' k = w k) (he : eEn E o (w' o) = en) : (eWs E w).set o (E.2.1 o, en) = eWs E w' := by
  apply List.ext_getElem?
  intro k
  by_cases hk : k = o
  · subst hk
    rw [List.getElem?_set_self (by rw [eWs_len]; exact ho), eWs_get E w' ho, he]
  · rw [List.getElem?_set_ne (Ne.symm hk)]
    by_cases hl : k < eN
    · rw [eWs_get E w hl, eWs_get E w' hl, hne k hk]
    · rw [List.getElem?_eq_none (by rw [eWs_len]; omega), List.getElem?_eq_none (by rw [eWs_len]; omega)]
theorem eEn_ints {E : eE} {o n : Nat} (h : eKd o = (10, n)) (f : Int → Int) : eEn E o f = .inl (E.2.2.2.1, n, .inl (fun j : Nat => Int32.ofInt (f j))) := by simp [eEn, h]
theorem eEn_bytes {E : eE} {o n : Nat} (h : eKd o = (9, n)) (f : Int → Int) : eEn E o f = .inl (E.2.2.1, n, .inl (fun j : Nat => Int32.ofInt (f j))) := by simp [eEn, h]
theorem eEn_obj {E : eE} {o ci : Nat} (h : (eKd o).1 = ci) (hc : ci < 9) (f : Int → Int) : eEn E o f = .inr (ci, eFs E.2.1 o f ci) := by
  subst h
  unfold eEn
  rw [if_neg (by omega), if_neg (by omega)]
theorem eFs_get (ad : Nat → Nat) (k : Nat) (f : Int → Int) {ci j : Nat} (h : j < (eTags.getD ci []).length) : (eFs ad k f ci)[j]? = some (eC ad (eFv k f ci j)) := by
  unfold eFs
  rw [List.getElem?_map, List.getElem?_range h]
  rfl
/-- a small number is itself -/
theorem eI_toInt {n : Int} (h : eI n) : (Int32.ofInt n).toInt = n := Int32.toInt_ofInt_of_le (by have := h.1; omega) (by have := h.2; omega)
theorem eJ_toInt {n : Int} (h : eJ n) : (Int64.ofInt n).toInt = n := Int64.toInt_ofInt_of_le (by have := h.1; omega) (by have := h.2; omega)
theorem e_lt {a b : Int} (ha : eI a) (hb : eI b) : (Int32.ofInt a < Int32.ofInt b) ↔ a < b := by rw [Int32.lt_iff_toInt_lt, eI_toInt ha, eI_toInt hb]
theorem e_le {a b : Int} (ha : eI a) (hb : eI b) : (Int32.ofInt a ≤ Int32.ofInt b) ↔ a ≤ b := by rw [Int32.le_iff_toInt_le, eI_toInt ha, eI_toInt hb]
theorem e_eq {a b : Int} (ha : eI a) (hb : eI b) : (Int32.ofInt a = Int32.ofInt b) ↔ a = b := ⟨fun h => by rw [← eI_toInt ha, ← eI_toInt hb, h], fun h => by rw [h]⟩
theorem eJ_lt {a b : Int} (ha : eJ a) (hb : eJ b) : (Int64.ofInt a < Int64.ofInt b) ↔ a < b := by rw [Int64.lt_iff_toInt_lt, eJ_toInt ha, eJ_toInt hb]
theorem eJ_le {a b : Int} (ha : eJ a) (hb : eJ b) : (Int64.ofInt a ≤ Int64.ofInt b) ↔ a ≤ b := by rw [Int64.le_iff_toInt_le, eJ_toInt ha, eJ_toInt hb]
theorem eJ_eq {a b : Int} (ha : eJ a) (hb : eJ b) : (Int64.ofInt a = Int64.ofInt b) ↔ a = b := ⟨fun h => by rw [← eJ_toInt ha, ← eJ_toInt hb, h], fun h => by rw [h]⟩
theorem e_clamp {i : Int} (h0 : 0 ≤ i) (h1 : eI i) : (Int32.ofInt i).toNatClampNeg = i.toNat := by
  show (Int32.ofInt i).toInt.toNat = _
  rw [eI_toInt h1]
theorem e_in {i : Int} {n : Nat} (h : 0 ≤ i ∧ i < n) (hn : n < 2147483648) : vp_in (Int32.ofInt i) n := by
  have h1 : eI i := ⟨by omega, by omega⟩
  rintro (q | q)
  · rw [show (0 : Int32) = Int32.ofInt 0 from rfl, e_lt h1 (by decide)] at q
    omega
  · rw [e_clamp h.1 h1] at q
    omega
/-- a field's link: class own, entry idx: of class ci the field k -/
def eFl (own : String) (idx ci k : Nat) : Prop := ∃ q : vw_C, vwCl[ci]? = some q ∧ ci < 9 ∧ k < q.2.2 ∧ q.2.2 = (eTags.getD ci []).length ∧ (q.2.1 k).1 = q.1 ∧ ((Cond.fieldLink own idx q.1 (q.2.1 k).2.1 (q.2.1 k).2.2.1 ∈ eTb) ∨ ∃ host, Cond.fieldLinkNest own idx q.1 (q.2.1 k).2.1 (q.2.1 k).2.2.1 host ∈ lw_tbl)
/-- a virtual call's link: class own, entry idx, n numbers -/
def eVc (Mc : eM) (n : Nat) : Prop := Cond.instanceMethod Mc.1 ∈ eTb ∧ Cond.selects Mc.1.cls Mc.1 Mc.1 ∈ eTb ∧ Cond.initialized Mc.1.cls ∈ eTb ∧ Cond.code Mc.1 Mc.2.1 Mc.2.2.1 Mc.2.2.2.1 ∈ eTb ∧ Mc.1.cls ≠ "java/lang/invoke/MethodHandle" ∧ Mc.1.cls ≠ "java/lang/invoke/VarHandle" ∧ (parseMethodDescriptor Mc.1.desc).map (fun d => d.parameters.length) = some n
def eVl (own : String) (idx : Nat) (Mc : eM) (n : Nat) : Prop := Cond.methodLink own idx Mc.1 ∈ eTb ∧ eVc Mc n
def eSc (Mc : eM) (n : Nat) : Prop := Cond.static Mc.1 ∈ eTb ∧ Cond.initialized Mc.1.cls ∈ eTb ∧ Cond.code Mc.1 Mc.2.1 Mc.2.2.1 Mc.2.2.2.1 ∈ eTb ∧ Mc.1.cls ≠ "java/lang/invoke/MethodHandle" ∧ Mc.1.cls ≠ "java/lang/invoke/VarHandle" ∧ (parseMethodDescriptor Mc.1.desc).map (fun d => d.parameters.length) = some n
def eSl (own : String) (idx : Nat) (Mc : eM) (n : Nat) : Prop := Cond.methodLink own idx Mc.1 ∈ eTb ∧ eSc Mc n
/-- the callee's room within the caller's -/
def eFit (M Mc : eM) : Prop := Mc.2.2.2.2.1 + 1 ≤ M.2.2.2.2.1 ∧ 8 + (Mc.2.2.1 + 11) + Mc.2.2.2.2.2 ≤ M.2.2.2.2.2
/-- the decode rows of a method, by their numbers -/
theorem eD {c : ByteArray} {L : List (Nat × Instr × Nat)} (h : L.map (fun q => decode c q.1) = L.map (fun q => Except.ok (q.2.1, q.2.2))) (k : Nat) {pc n : Nat} {i : Instr} (hk : L[k]? = some (pc, i, n)) : decode c pc = .ok (i, n) := by
  have h1 := congrArg (fun l => l[k]?) h
  simp only [List.getElem?_map, hk, Option.map_some] at h1
  exact Option.some.inj h1
