/-! CONSTRUCTORS: a world that grows. D, cB, cI: the classes and slots, the classes of byte and int rows -/
abbrev nTy (cB cI : ClassId) : List (ClassId × FieldType) := [(cB, .byte), (cI, .int)]
def nR (M : eM) (k n : Nat) : Room := { frames := M.2.2.2.2.1, cells := k, slots := n, locals := M.2.2.2.2.2 }
/-- links between nest mates -/
def nNest (U : State) : Prop := ∀ (a : String) (i : Nat) (x : MethodName) (h : String), Cond.methodLinkNest a i x h ∈ lw_tbl → va_Nw (.methodLinkNest a i x h) U
theorem nNest.warm {s U : State} (hW : s.WarmedH U.vm) (h : nNest s) : nNest U := fun a i x q g => va_Nw.warmM hW (h a i x q g)
def nX (D : va_G) (cB cI : ClassId) (M : eM) (A : Nat → Prop) (p : Program) (s : State) (m : MethodId) (args : Array Value) (meth : Method) (c : Code) : Prop :=
  p.tables.exec = Jvm.exec ∧ c.code = M.2.1 ∧ c.maxLocals = M.2.2.1 ∧ meth.sig.returnType = M.2.2.2.1 ∧ meth.locks = false ∧ meth.name = "<init>" ∧ s.vm.findClass M.1.cls = some m.cls ∧ (∀ w ∈ eTb, w.before args s = true) ∧ va_K D vwCl (nTy cB cI) s ∧ (∀ q, s.heap.size ≤ q → A q) ∧ nNest s
/-- how a constructor ends: with the world F u -/
def nQ (D : va_G) (F : (Nat → Nat) → va_W) (A : Nat → Prop) : Array Value → State → Outcome → State → Prop := va_Qv (fun _ : Nat → Nat => True) (fun u t => va_P D vwCl (F u) t.heap ∧ va_D A (F u)) A
def GoN (D : va_G) (cB cI : ClassId) (M : eM) (R : Room) (F : (Nat → Nat) → va_W) (pc : Nat) (ls : List (Nat × Value)) (st : List Value) (ws : va_W) (k n : Nat) : Prop :=
  ∀ (A : Nat → Prop) (p : Program) (l : Launch) (e : Env) (s : State) (m : MethodId) (args : Array Value) (below : List Frame) (meth : Method) (c : Code) (H : Heap) (locs : List Loc) (la : Array Slot),
    nX D cB cI M A p s m args meth c → va_P D vwCl ws H → va_D A ws → va_S A s.heap H locs → lv_has la M.2.2.1 ls →
    W p l e R s m args below meth c H locs k n (MQ below (nQ D F A) args s R.cells R.slots A) (F0 m pc la st)
/-- a constructor's contract: k cells of n slots are new -/
def CtN (D : va_G) (cB cI : ClassId) (M : eM) (k n ci : Nat) (fs0 As : List Value) (F : Nat → (Nat → Nat) → va_W) : Prop :=
  ∀ (l : Launch) (h0 sz : Nat), Met l M.1 (eWd M) (nR M k n) (va_Pc (.ref h0 :: As) (fun U => U.heap.size = sz ∧ va_P D vwCl [(h0, .inr (ci, fs0))] U.heap ∧ va_K D vwCl (nTy cB cI) U ∧ va_D (fun _ => True) [(h0, .inr (ci, fs0))] ∧ nNest U)) (nQ D (F h0) (va_A [(h0, .inr (ci, fs0))] sz)) k n (va_A [(h0, .inr (ci, fs0))] sz)
section NC
variable {D : va_G} {cB cI : ClassId} {M Mc : eM} {R : Room} {F : (Nat → Nat) → va_W} {pc : Nat} {ls : List (Nat × Value)} {st : List Value} {ws : va_W} {k n : Nat}
theorem CtN.of {k n ci : Nat} {fs0 As : List Value} {F : Nat → (Nat → Nat) → va_W} (hn : plainName M.1.cls = true) (hi : M.1.name = "<init>") (hlen : ∀ h0, (lg_sl (.ref h0 :: As)).length ≤ M.2.2.1)
    (g : ∀ h0, GoN D cB cI M (nR M k n) (F h0) 0 (lv_args 0 (.ref h0 :: As)) [] [(h0, .inr (ci, fs0))] 0 0) : CtN D cB cI M k n ci fs0 As F := by
  intro l h0 sz
  refine Met.ofW (cc := M.2.1) (maxL := M.2.2.1) (ret := M.2.2.2.1) (ws' := eTb) hn rfl ?_
  intro p e s m args below meth c s₁ B hml hv
  obtain ⟨rfl, hsz, hP, hK, hD0, hN⟩ := hv
  have hts := atoms_spec (ws := eWd M) B.pre
  have hl := lv_entry (.ref h0 :: As) (n := M.2.2.1) (hlen h0)
  have hin : meth.name = "<init>" := by rw [(name_of_methodNamed B.named B.method).1]; exact hi
  subst hsz
  have hD := hD0.self (sz := s.heap.size)
  rw [lg_entry_eq]
  exact g h0 (va_A [(h0, .inr (ci, fs0))] s.heap.size) p l e s m _ below meth c s.heap [] _ ⟨B.exec, B.bytes, hml, B.returns, B.notSynchronized, hin, findClass_of_methodNamed B.named, fun w h => hts w (List.mem_cons_of_mem _ h), hK, fun q h => Or.inr h, hN⟩ hP hD va_S.rf hl
theorem n_aload {k4 : Fin 4} {i a : Nat} (j : Nat) (hd : decode M.2.1 pc = .ok (.aload_n k4, 1)) (hi : (k4 : Nat) = i) (h : ls[j]? = some (i, .ref a)) (g : GoN D cB cI M R F (pc + 1) ls (.ref a :: st) ws k n) : GoN D cB cI M R F pc ls st ws k n := by
  intro A p l e s m args below meth c H locs la X hP hD hS hl
  exact lv_aload_n X.1 X.2.1 hd hi (lv_at hl j h) (g A p l e s m args below meth c H locs la X hP hD hS hl)
theorem n_iconst {x : Int} (hd : decode M.2.1 pc = .ok (.iconst x, 1)) (g : GoN D cB cI M R F (pc + 1) ls (.int (Int32.ofInt x) :: st) ws k n) : GoN D cB cI M R F pc ls st ws k n := by
  intro A p l e s m args below meth c H locs la X hP hD hS hl
  exact lv_iconst X.1 X.2.1 hd rfl (g A p l e s m args below meth c H locs la X hP hD hS hl)
theorem n_bipush {x : Int} (hd : decode M.2.1 pc = .ok (.bipush x, 2)) (hv : (Int8.ofInt x).toInt32 = Int32.ofInt x) (g : GoN D cB cI M R F (pc + 2) ls (.int (Int32.ofInt x) :: st) ws k n) : GoN D cB cI M R F pc ls st ws k n := by
  intro A p l e s m args below meth c H locs la X hP hD hS hl
  exact lv_bipush X.1 X.2.1 hd hv (g A p l e s m args below meth c H locs la X hP hD hS hl)
theorem n_sipush {x : Int} (hd : decode M.2.1 pc = .ok (.sipush x, 3)) (hv : (Int16.ofInt x).toInt32 = Int32.ofInt x) (g : GoN D cB cI M R F (pc + 3) ls (.int (Int32.ofInt x) :: st) ws k n) : GoN D cB cI M R F pc ls st ws k n := by
  intro A p l e s m args below meth c H locs la X hP hD hS hl
  exact lv_sipush X.1 X.2.1 hd hv (g A p l e s m args below meth c H locs la X hP hD hS hl)
theorem n_lconst {x : Fin 2} (hd : decode M.2.1 pc = .ok (.lconst x, 1)) (g : GoN D cB cI M R F (pc + 1) ls (.long (Int64.ofInt (x : Nat)) :: st) ws k n) : GoN D cB cI M R F pc ls st ws k n := by
  intro A p l e s m args below meth c H locs la X hP hD hS hl
  exact lv_lconst X.1 X.2.1 hd rfl (g A p l e s m args below meth c H locs la X hP hD hS hl)
theorem n_dup {v : Value} (hd : decode M.2.1 pc = .ok (.dup, 1)) (hv : v.category = 1) (g : GoN D cB cI M R F (pc + 1) ls (v :: v :: st) ws k n) : GoN D cB cI M R F pc ls (v :: st) ws k n := by
  intro A p l e s m args below meth c H locs la X hP hD hS hl
  exact lv_dup X.1 X.2.1 hd hv (g A p l e s m args below meth c H locs la X hP hD hS hl)
/-- Object's own constructor -/
theorem n_obj {idx a : Nat} (hd : decode M.2.1 pc = .ok (.invokespecial idx, 3)) (hw : Cond.methodLink M.1.cls idx Lib.objectInit ∈ eTb) (hfr : 1 ≤ R.frames) (hlo : 12 ≤ R.locals) (g : GoN D cB cI M R F (pc + 3) ls [] ws k n) : GoN D cB cI M R F pc ls [.ref a] ws k n := by
  intro A p l e s m args below meth c H locs la X hP hD hS hl
  obtain ⟨hx, hb, hml, hr, hlk, hin, hown, hts, hK, hA, hN⟩ := id X
  refine W.objInit hx hb hown (hts _ hw) (hts (.instanceMethod Lib.objectInit) (eMem 1 28 rfl rfl)) (hts (.code Lib.objectInit ⟨#[0xb1]⟩ 1 none) (eMem 1 29 rfl rfl)) rfl (by rw [hml]; exact hl.1) rfl hd hfr hlo ?_
  refine W.eq (g2 := F0 m (pc + 3) la []) rfl ?_
  exact g A p l e s m args below meth c H locs la X hP hD hS hl
theorem n_newI {x : Int} (N k2 n2 : Nat) (hd : decode M.2.1 pc = .ok (.newarray .int, 2)) (hx : Int32.ofInt x = Int32.ofNat N) (hN : N < 100000) (hk : k + 1 = k2) (hn : n + N = n2) (h1 : k2 ≤ R.cells) (h2 : n2 ≤ R.slots)
    (g : ∀ q, GoN D cB cI M R F (pc + 2) ls (.ref q :: st) (ws ++ [(q, .inl (cI, N, .inl (fun _ : Nat => (0 : Int32))))]) k2 n2) : GoN D cB cI M R F pc ls (.int (Int32.ofInt x) :: st) ws k n := by
  intro A p l e s m args below meth c H locs la X hP hD hS hl
  obtain ⟨hxx, hb, hml, hr, hlk, hin, hown, hts, hK, hA, hNn⟩ := id X
  subst hk
  subst hn
  rw [hx]
  have hcl : (Int32.ofNat N).toNatClampNeg = N := nI_clamp (n := N) (by omega)
  refine va_newa (atype := .int) (ty := .int) (a0 := (N, .inl (fun _ : Nat => (0 : Int32)))) (N' := N) hxx hb (hts (.arrayClass .int) (eMem 1 70 rfl rfl)) rfl hK hP hD hS hA (fun cA => rfl) (nI_pos (n := N) (by omega)) hcl (by show N * 4 ≤ _; omega) h1 h2 hd (fun q cA H1 hK1 hP1 hD1 hS1 => ?_)
  have ec : cA = cI := by
    have a1 : s.vm.findClass ("[" ++ FieldType.int.toString) = some cA := (hK1.2 2 _ rfl).2
    have a2 : s.vm.findClass ("[" ++ FieldType.int.toString) = some cI := (hK.2 1 _ rfl).2
    exact Option.some.inj (a1.symm.trans a2)
  subst ec
  exact g q A p l e s m args below meth c H1 locs la X hP1 hD1 hS1 hl
theorem n_newB {x : Int} (N k2 n2 : Nat) (hd : decode M.2.1 pc = .ok (.newarray .byte, 2)) (hx : Int32.ofInt x = Int32.ofNat N) (hN : N < 100000) (hk : k + 1 = k2) (hn : n + N = n2) (h1 : k2 ≤ R.cells) (h2 : n2 ≤ R.slots)
    (g : ∀ q, GoN D cB cI M R F (pc + 2) ls (.ref q :: st) (ws ++ [(q, .inl (cB, N, .inl (fun _ : Nat => (0 : Int32))))]) k2 n2) : GoN D cB cI M R F pc ls (.int (Int32.ofInt x) :: st) ws k n := by
  intro A p l e s m args below meth c H locs la X hP hD hS hl
  obtain ⟨hxx, hb, hml, hr, hlk, hin, hown, hts, hK, hA, hNn⟩ := id X
  subst hk
  subst hn
  rw [hx]
  have hcl : (Int32.ofNat N).toNatClampNeg = N := nI_clamp (n := N) (by omega)
  refine va_newa (atype := .byte) (ty := .byte) (a0 := (N, .inl (fun _ : Nat => (0 : Int32)))) (N' := N) hxx hb (hts (.arrayClass .byte) (eMem 1 69 rfl rfl)) rfl hK hP hD hS hA (fun cA => rfl) (nI_pos (n := N) (by omega)) hcl (by show N * 1 ≤ _; omega) h1 h2 hd (fun q cA H1 hK1 hP1 hD1 hS1 => ?_)
  have ec : cA = cB := by
    have a1 : s.vm.findClass ("[" ++ FieldType.byte.toString) = some cA := (hK1.2 2 _ rfl).2
    have a2 : s.vm.findClass ("[" ++ FieldType.byte.toString) = some cB := (hK.2 0 _ rfl).2
    exact Option.some.inj (a1.symm.trans a2)
  subst ec
  exact g q A p l e s m args below meth c H1 locs la X hP1 hD1 hS1 hl
theorem n_put {idx ci f a q0 : Nat} {fs : List Value} {v : Value} {q : vw_C} {ty : FieldType} (hd : decode M.2.1 pc = .ok (.putfield idx, 3)) (hq : vwCl[ci]? = some q) (hw : Cond.fieldLink M.1.cls idx q.1 (q.2.1 f).2.1 (q.2.1 f).2.2.1 ∈ eTb) (hC : (q.2.1 f).1 = q.1 ∧ (q.2.1 f).1 = M.1.cls) (hk : f < q.2.2) (he : ws[q0]? = some (a, .inr (ci, fs))) (hp : parseFieldDescriptor (q.2.1 f).2.2.1 = some ty) (hnr : narrow ty v = v) (hft : fits ty v = true) (hl0 : f < fs.length)
    (g : GoN D cB cI M R F (pc + 3) ls st (ws.set q0 (a, .inr (ci, fs.set f v))) k n) : GoN D cB cI M R F pc ls (v :: .ref a :: st) ws k n := by
  intro A p l e s m args below meth c H locs la X hP hD hS hl
  obtain ⟨hx, hb, hml, hr, hlk, hin, hown, hts, hK, hA, hN⟩ := id X
  obtain ⟨C, T, N⟩ := q
  dsimp only at hk hC hw hp
  obtain ⟨ty0, hty, -⟩ := eTyX ci _ hq
  have hsame : ∀ x, s.fieldFound? (T f).1 (T f).2.1 (T f).2.2.1 = some x → s.fieldFound? C (T f).2.1 (T f).2.2.1 = some x := fun x h => by rw [← hC.1]; exact h
  by_cases hfin : (T f).2.2.2 = true
  · exact va_putF (D := D) (cl := vwCl) (tys := nTy cB cI) (ws := ws) (ci := ci) (C := C) (T := T) (N := N) (Ts := eTb) (A := A) (ty := ty) hx hb hts (eInX ci _ hq) ty0 hty (eNmX ci _ hq) hown hK hP hD hS q0 he hq f hk (hts _ hw) hsame hfin hin hC.2 hp hnr hft hl0 hd (fun H1 locs1 hP1 hD1 hS1 => g A p l e s m args below meth c H1 locs1 la X hP1 hD1 hS1 hl)
  · exact va_put (D := D) (cl := vwCl) (tys := nTy cB cI) (ws := ws) (ci := ci) (C := C) (T := T) (N := N) (Ts := eTb) (A := A) (ty := ty) hx hb hts (eInX ci _ hq) ty0 hty (eNmX ci _ hq) hown hK hP hD hS q0 he hq f hk (hts _ hw) hsame (by simpa using hfin) hp hnr hft hl0 hd (fun H1 locs1 hP1 hD1 hS1 => g A p l e s m args below meth c H1 locs1 la X hP1 hD1 hS1 hl)
theorem n_get {idx ci f a q0 : Nat} {fs : List Value} {v : Value} {q : vw_C} (hd : decode M.2.1 pc = .ok (.getfield idx, 3)) (hq : vwCl[ci]? = some q) (hw : Cond.fieldLink M.1.cls idx q.1 (q.2.1 f).2.1 (q.2.1 f).2.2.1 ∈ eTb) (hC : (q.2.1 f).1 = q.1) (hk : f < q.2.2) (he : ws[q0]? = some (a, .inr (ci, fs))) (hv : fs[f]? = some v)
    (g : GoN D cB cI M R F (pc + 3) ls (v :: st) ws k n) : GoN D cB cI M R F pc ls (.ref a :: st) ws k n := by
  intro A p l e s m args below meth c H locs la X hP hD hS hl
  obtain ⟨hx, hb, hml, hr, hlk, hin, hown, hts, hK, hA, hN⟩ := id X
  obtain ⟨C, T, N⟩ := q
  dsimp only at hk hC hw
  have hsame : ∀ x, s.fieldFound? (T f).1 (T f).2.1 (T f).2.2.1 = some x → s.fieldFound? C (T f).2.1 (T f).2.2.1 = some x := fun x h => by rw [← hC]; exact h
  exact va_get (D := D) (cl := vwCl) (tys := nTy cB cI) (ws := ws) (ci := ci) (C := C) (T := T) (N := N) (Ts := eTb) hx hb hts (eInX ci _ hq) hown hK hP q0 he hq f hk (hts _ hw) hsame hv hd (g A p l e s m args below meth c H locs la X hP hD hS hl)
theorem n_new {idx ci : Nat} {q : vw_C} (ty : Nat → FieldType) (fs : List Value) (k2 n2 : Nat) (hd : decode M.2.1 pc = .ok (.new idx, 3)) (hq : vwCl[ci]? = some q) (hty : ∀ j, j < q.2.2 → parseFieldDescriptor (q.2.1 j).2.2.1 = some (ty j)) (w1 : Cond.classLink M.1.cls idx q.1 ∈ eTb) (w2 : Cond.instantiable q.1 q.2.2 ∈ eTb) (w3 : Cond.initialized q.1 ∈ eTb) (hfs : ∀ j, j < q.2.2 → defaultValue (ty j) = vp_V fs j) (hk : k + 1 = k2) (hn : n + q.2.2 = n2) (h1 : k2 ≤ R.cells) (h2 : n2 ≤ R.slots)
    (g : ∀ a, GoN D cB cI M R F (pc + 3) ls (.ref a :: st) (ws ++ [(a, .inr (ci, fs))]) k2 n2) : GoN D cB cI M R F pc ls st ws k n := by
  intro A p l e s m args below meth c H locs la X hP hD hS hl
  obtain ⟨hx, hb, hml, hr, hlk, hin, hown, hts, hK, hA, hN⟩ := id X
  subst hk
  subst hn
  obtain ⟨C, T, N⟩ := q
  exact va_new (ci := ci) (fs := fs) (C := C) (T := T) (N := N) (Ts := eTb) hx hb hts (eInX ci _ hq) ty hty hown (hts _ w1) (hts _ w2) (hts _ w3) hK hP hD hS hA hq hfs h1 h2 hd (fun a H1 hP1 hD1 hS1 => g a A p l e s m args below meth c H1 locs la X hP1 hD1 hS1 hl)
theorem n_call {idx b kc nc ci na : Nat} {fs0 rest : List Value} {Fc : Nat → (Nat → Nat) → va_W} {wr : va_W} (As : List Value) (k2 n2 : Nat) (isC isR : List Nat) (hd : decode M.2.1 pc = .ok (.invokespecial idx, 3)) (hct : CtN D cB cI Mc kc nc ci fs0 As Fc) (hl : Cond.methodLink M.1.cls idx Mc.1 ∈ eTb ∨ ∃ host, Cond.methodLinkNest M.1.cls idx Mc.1 host ∈ lw_tbl) (w2 : Cond.initialized Mc.1.cls ∈ eTb) (w3 : Cond.instanceMethod Mc.1 ∈ eTb) (w4 : Cond.code Mc.1 Mc.2.1 Mc.2.2.1 Mc.2.2.2.1 ∈ eTb) (hi : Mc.1.name = "<init>") (hret : Mc.2.2.2.1 = none)
    (hdd : Mc.1.cls ≠ "java/lang/invoke/MethodHandle" ∧ Mc.1.cls ≠ "java/lang/invoke/VarHandle" ∧ (parseMethodDescriptor Mc.1.desc).map (fun d => d.parameters.length) = some na) (hR : Mc.2.2.2.2.1 + 1 ≤ R.frames ∧ 8 + (Mc.2.2.1 + 11) + Mc.2.2.2.2.2 ≤ R.locals) (hna : As.length = na) (hst : st = As.reverse ++ .ref b :: rest) (hcat : (rest.map fun v => v.category).sum ≤ 8)
    (hC : isC.map (fun i => ws[i]?) = [((b, .inr (ci, fs0)) : Nat × va_E)].map some) (hRr : isR.map (fun i => ws[i]?) = wr.map some) (hnd : va_nd isC = true) (hnr : va_nd isR = true) (hdis : ∀ i ∈ isR, i ∉ isC) (hk : k + kc = k2) (hn : n + nc = n2) (h1 : k2 ≤ R.cells) (h2 : n2 ≤ R.slots)
    (g : ∀ u, GoN D cB cI M R F (pc + 3) ls rest (wr ++ Fc b u) k2 n2) : GoN D cB cI M R F pc ls st ws k n := by
  intro A p l e s m args below meth c H locs la X hP hD hS hls
  obtain ⟨hx, hb, hml, hr, hlk, hin, hown, hts, hK, hA, hN⟩ := id X
  subst hk
  subst hn
  subst hst
  have hPc : va_P D vwCl [(b, .inr (ci, fs0))] H := hP.sub isC (by
    have : isC.filterMap (fun i => ws[i]?) = ((isC.map (fun i => ws[i]?)).filterMap id) := by rw [List.filterMap_map]; rfl
    rw [this, hC]; rfl)
  have hDc : va_D A [(b, .inr (ci, fs0))] := hD.sub isC hnd hC
  have hFc := va_free (wc := [(b, .inr (ci, fs0))]) hD hS hA isC hC
  have hpre : PreS s H (va_Pc (.ref b :: As) (fun U => U.heap.size = H.size ∧ va_P D vwCl [(b, .inr (ci, fs0))] U.heap ∧ va_K D vwCl (nTy cB cI) U ∧ va_D (fun _ => True) [(b, .inr (ci, fs0))] ∧ nNest U)) (.ref b :: As) :=
    ⟨fun a U g mk q => by
      obtain ⟨q0, q1, qP, qK, qD, qN⟩ := q
      exact ⟨q0, q1, qP, va_K.moved (u := U) (U := U.calling g mk a) (Vm.Alike.refl U.vm) qK, qD, fun a i x h z => va_Nw.same rfl rfl (qN a i x h z)⟩,
     fun U hU hW => ⟨rfl, by rw [hU], by rw [hU]; exact hPc, va_K.moved hW.alike hK, hDc.weaken (fun _ _ _ _ => trivial), hN.warm hW⟩⟩
  have w4' : Cond.code Mc.1 Mc.2.1 Mc.2.2.1 none ∈ eTb := by rw [← hret]; exact w4
  have hwd : eWd Mc = Cond.code Mc.1 Mc.2.1 Mc.2.2.1 none :: eTb := by unfold eWd; rw [hret]
  have hrun : va_Run p l e R s m args below meth c H locs k n kc nc (F0 m pc la (As.reverse ++ .ref b :: rest)) rest (nQ D (Fc b) (va_A [(b, .inr (ci, fs0))] H.size) (Value.ref b :: As).toArray) (va_A [(b, .inr (ci, fs0))] H.size) := by
    rcases hl with hl | ⟨host, hl⟩
    · exact va_runI (cc := M.2.1) (nL := M.2.2.1) (Ts := eTb) (own := M.1.cls) ⟨hx, hb, hml, hown, hts⟩ (hct l b H.size) (cwI (bytes := Mc.2.1) (maxL := Mc.2.2.1) na hts (eWd_good w4) hwd rfl rfl (hts _ w2) (hts _ hl) (hts _ w3) hi hdd hR) hpre rfl hna hls.1 rfl (lv_room hcat) hd ⟨h1, h2⟩
    · exact va_runIN (cc := M.2.1) (nL := M.2.2.1) (Ts := eTb) (own := M.1.cls) (host := host) ⟨hx, hb, hml, hown, hts⟩ (hct l b H.size) ⟨va_cnB (bytes := Mc.2.1) (maxL := Mc.2.2.1) (ret := none) na hts (eWd_good w4) hwd rfl rfl (hN _ _ _ _ hl) (hts _ w2) hdd hR, hi, hts _ w3⟩ hpre rfl hna hls.1 rfl (lv_room hcat) hd ⟨h1, h2⟩
  refine va_callv hrun hS (fun q _ h => hFc q h) hFc (fun u t H1 locs1 ht hvm _ hB hz1 hk1 hS1 => ?_)
  obtain ⟨hP1, hD1⟩ := hB
  rw [ht] at hP1
  obtain ⟨hP2, hD2⟩ := va_join (wr := wr) (w1 := Fc b u) (wc := [(b, .inr (ci, fs0))]) hP hD isC isR hC hRr hnr hdis hk1 hFc hP1 hD1
  exact g u A p l e s m args below meth c H1 locs1 la X hP2 hD2 hS1 hls
theorem n_ret (u : Nat → Nat) (hd : decode M.2.1 pc = .ok (.return_, 1)) (hr0 : M.2.2.2.1 = none) (hu : ws = F u) (hk : k = R.cells) (hn : n = R.slots) : GoN D cB cI M R F pc ls [] ws k n := by
  intro A p l e s m args below meth c H locs la X hP hD hS hl
  obtain ⟨hx, hb, hml, hr, hlk, hin, hown, hts, hK, hA, hN⟩ := id X
  subst hk
  subst hn
  rw [hu] at hP hD
  exact W.vret hx hb (hr.trans hr0) (fun t ht hW => ⟨⟨u, rfl, trivial, by rw [ht]; exact hP, hD⟩, hS.F ht⟩) hS.2.2 hd hlk
end NC
