/-! the class's own throw: new NoSuchElementException("no such row"). Its constructor calls its parent's by entry 13, not 7: the kit's chain is taken from the parent on, the first link is made here (turned from the kit's text of exceptions) -/
def rX : String := "java/util/NoSuchElementException"
def rY : String := "java/lang/RuntimeException"
def r13 : ByteArray := ⟨#[42, 43, 183, 0, 13, 177]⟩
def rAt : List Cond := Bundle.throwableAtoms ++ Bundle.throwableSAtoms ++ (Bundle.passSAtoms rX rY 13 r13 ++ Bundle.chainSAtoms rY ["java/lang/Exception"]) ++
  [Cond.methodLink "EaveRoofs" 272 (Bundle.initS rX), Cond.instantiable rX 6, Cond.castable rX rX, Cond.selects rX Bundle.tFill0 Bundle.tFill0, Cond.selects rX Bundle.tFill Bundle.tFill, Cond.lays rX Bundle.tN "cause" "Ljava/lang/Throwable;", Cond.lays rX Bundle.tN "stackTrace" Bundle.steD, Cond.lays rX Bundle.tN "suppressedExceptions" Bundle.listD, Cond.lays rX Bundle.tN "detailMessage" "Ljava/lang/String;", Cond.isRef (Term.static Bundle.tN "UNASSIGNED_STACK" Bundle.steD), Cond.isRef (Term.static Bundle.tN "SUPPRESSED_SENTINEL" Bundle.listD), Cond.fieldLink Bundle.tN 198 Bundle.tN "backtrace" "Ljava/lang/Object;", Cond.lays Bundle.tN Bundle.tN "backtrace" "Ljava/lang/Object;", Cond.lays rX Bundle.tN "backtrace" "Ljava/lang/Object;"]
set_option maxHeartbeats 1000000 in
theorem rx_made {p : Program} {l : Launch} {e : Env} {R : Room} {s : State} {m₀ : MethodId} {args : Array Value} {below : List Frame} {meth : Method} {c : Code} {W : State} {locs : List Loc} {cells slots : Nat} (X : Stand p l e R s m₀ args below meth c W locs cells slots) (hexec : p.tables.exec = Jvm.exec) (htr : e.platform.stackTraces = false)
    (hown : s.vm.findClass "EaveRoofs" = some m₀.cls) (h : ∀ a ∈ rAt, a.before args s = true)
    (hlocs : ∀ x ∈ locs, ∀ cell, s.heap[x.base]? = some cell → cell.vm.isStatics = false)
    {a : Addr} {cX : ClassId} {kX : Class} (hfoundX : s.vm.findClass rX = some cX) (hkX : s.vm.classes[cX]? = some kX) (hcell : W.heap[a]? = some (freshCell cX kX)) (hnew : s.heap.size ≤ a)
    {msg : Value} (hmsg : msg.isRef = true)
    {g : JFrame} (hg : g.method = m₀) (hsize : g.locals.size = c.maxLocals) {rest : List Value} (hstack : g.stack = msg :: .ref a :: .ref a :: rest)
    (hd6 : decode c.code g.pc = .ok (.invokespecial 272, 3))
    (hRframes : 5 < R.frames) (hRlocals : 2 * g.monitorRoom + ((Value.ref a :: rest).map fun v => v.category).sum + (13 * 3 + 42) ≤ R.locals) :
    ∃ (V : State) (ce : Cell) (L : List Loc), Stand p l e R s m₀ args below meth c (V.setCell a ce) (locs ++ L) cells slots ∧ (∀ y ∈ L, y.base = a) ∧ a < V.heap.size ∧ ce.cls = cX ∧ ce.vm = .none ∧
      ∀ target, Steps p.tables e below ((V.setCell a ce).setTop { g with stack := .ref a :: rest, pc := g.pc + 3 }) target → Steps p.tables e below (W.setTop g) target := by
  have howns : e.platform.frameOwnsMonitors = true := by rw [X.admits.platform]
  have hfin : e.platform.finalization = false := by rw [X.admits.platform]
  have hpl : e.platform.magicAccessors = ({} : Platform).magicAccessors := by rw [X.admits.platform]
  have a' : ∀ x, x ∈ rAt → x.holds args s none s [] = true := fun x hx => h x hx
  obtain ⟨T, Z0, L, -, Y⟩ := ThrowableC.of_atoms (args := args) howns hfin hpl (fun x hx => h x (by simp only [rAt, List.mem_append]; simp only [hx, true_or, or_true]))
  obtain ⟨Z, M, LZ, LM, hnZ⟩ := Init0T.ofS_atoms (args := args) hpl L Y (fun x hx => h x (by simp only [rAt, List.mem_append]; simp only [hx, true_or, or_true]))
  obtain ⟨P1, L1, hP1m, hP1s⟩ := PassC.ofS_atoms (args := args) (s := s) hpl (X := rX) (Y := rY) (index := 13) (bytes := r13) (by decide +kernel) (by decide +kernel) (by decide +kernel) (by decide +kernel) (by decide +kernel) (by decide +kernel) (fun x hx => h x (by simp only [rAt, List.mem_append]; simp only [hx, true_or, or_true]))
  obtain ⟨P2, Ps, hlen, L2, hL, hP2m, hlink2, hlink⟩ := Bundle.chainS (args := args) hpl hnZ ["java/lang/Exception"] rY (by decide +kernel) (by decide +kernel) (fun x hx => h x (by simp only [rAt, List.mem_append]; simp only [hx, true_or, or_true]))
  have hlink1 : P1.sup = P2.m := Option.some.inj (hP1s.symm.trans hP2m)
  have hfound : s.vm.findClass rX = some P1.m.cls := findClass_of_methodNamed hP1m
  cases Option.some.inj (hfoundX.symm.trans hfound)
  obtain ⟨c1, kX', hc1, hk, hord, -, -, hn6⟩ := Cond.instantiable_spec (a' (.instantiable rX 6) (by simp [rAt]))
  cases Option.some.inj (hc1.symm.trans hfound)
  cases Option.some.inj (hkX.symm.trans hk)
  have hsel0 : selectMethod e.platform s.vm P1.m.cls T.fill0 = .method T.fill0 := by
    obtain ⟨c2, r2, m2, q1, q2, q3, q4, -⟩ := Cond.selects_spec (a' (.selects rX Bundle.tFill0 Bundle.tFill0) (by simp [rAt]))
    cases Option.some.inj (q1.symm.trans hfound)
    cases Option.some.inj (q2.symm.trans (State.methodFound?_of_named Y.fill0 (by decide)))
    cases Option.some.inj (q3.symm.trans Y.fill0)
    rw [Launch.admits_selectMethod X.admits]; exact q4
  have hselF : selectMethod e.platform s.vm P1.m.cls T.fill = .method T.fill := by
    obtain ⟨c2, r2, m2, q1, q2, q3, q4, -⟩ := Cond.selects_spec (a' (.selects rX Bundle.tFill Bundle.tFill) (by simp [rAt]))
    cases Option.some.inj (q1.symm.trans hfound)
    cases Option.some.inj (q2.symm.trans (State.methodFound?_of_named Y.fill (by decide)))
    cases Option.some.inj (q3.symm.trans Y.fill)
    rw [Launch.admits_selectMethod X.admits]; exact q4
  obtain ⟨cellS0, hcS0, hiss⟩ := Y.statics
  obtain ⟨u0, hu0⟩ := Cond.staticRefV Y.unassigned L.unassignedStatic L.statics hcS0 hiss (a' (.isRef (.static Bundle.tN "UNASSIGNED_STACK" Bundle.steD)) (by simp [rAt]))
  obtain ⟨sen, hsen⟩ := Cond.staticRefV Y.sentinel L.sentinelStatic L.statics hcS0 hiss (a' (.isRef (.static Bundle.tN "SUPPRESSED_SENTINEL" Bundle.listD)) (by simp [rAt]))
  obtain ⟨ci198, i198, fB, hk198, hg198, ha198, hsB, -, hnB, htB, hffB⟩ := Cond.ownField (t := .object "java/lang/Object") Y.found L.cls (by decide +kernel) (a' (.fieldLink Bundle.tN 198 Bundle.tN "backtrace" "Ljava/lang/Object;") (by simp [rAt])) (a' (.lays Bundle.tN Bundle.tN "backtrace" "Ljava/lang/Object;") (by simp [rAt])) e.platform hpl
  obtain ⟨cellS, hcS', heS, -, hkeep⟩ := X.same.2.2.2.2.2 T.aS cellS0 hcS0
  have hcellS : W.heap[T.aS]? = some cellS := hcS'
  have hout' : ∀ i, (⟨T.aS, i⟩ : Loc) ∉ locs := fun i hmem => by
    have := hlocs _ hmem cellS0 hcS0
    rw [hiss] at this; cases this
  have hknownS : cellS.vm ≠ .unknown := by
    rw [heS]; intro hu
    rw [show cellS0.vm = .unknown from hu] at hiss
    cases hiss
  have hneS : T.aS ≠ a := Nat.ne_of_lt (Nat.lt_of_lt_of_le (Array.getElem?_eq_some_iff.mp hcS0).1 hnew)
  obtain ⟨iM, hffM⟩ := Y.msg
  obtain ⟨tyC, dC, hdC, hdnC⟩ := Cond.laysAt hfound hk Y.cause (a' (.lays rX Bundle.tN "cause" "Ljava/lang/Throwable;") (by simp [rAt]))
  obtain ⟨tyS, dS, hdS, hdnS⟩ := Cond.laysAt hfound hk Y.stack (a' (.lays rX Bundle.tN "stackTrace" Bundle.steD) (by simp [rAt]))
  obtain ⟨tyP, dP, hdP, hdnP⟩ := Cond.laysAt hfound hk Y.supp (a' (.lays rX Bundle.tN "suppressedExceptions" Bundle.listD) (by simp [rAt]))
  obtain ⟨tyM, dM, hdM, hdnM⟩ := Cond.laysAt hfound hk hffM (a' (.lays rX Bundle.tN "detailMessage" "Ljava/lang/String;") (by simp [rAt]))
  obtain ⟨tyB, dB, hdB, hdnB⟩ := Cond.laysAt hfound hk hffB (a' (.lays rX Bundle.tN "backtrace" "Ljava/lang/Object;") (by simp [rAt]))
  have bC := Cond.laysApart hdB hdC hdnB hdnC (by rw [hnB, Y.causeName]; decide)
  have bS := Cond.laysApart hdB hdS hdnB hdnS (by rw [hnB, Y.stackName]; decide)
  have bP := Cond.laysApart hdB hdP hdnB hdnP (by rw [hnB, Y.suppName]; decide)
  have hskip : SkipFacts T e.platform s (fun u => u) u0 ((preparedCellV T.toThrowableT (freshCell P1.m.cls kX) a u0 sen).withEntry W.cur) :=
    ⟨{ ci198 := ci198, i198 := i198, fBack := fB }, ⟨hk198, hg198, ha198, hsB⟩, by
      have := fresh_default (c := P1.m.cls) tyB
      rw [htB] at this
      simpa [preparedCellV, Cell.setSlot, Cell.withEntry, Array.getElem?_setIfInBounds, bC, bS, bP, bC.symm, bS.symm, bP.symm, defaultValue] using this, fun _ _ => rfl⟩
  obtain ⟨tm, methC, cdC, kC, vm₁, hnC, -, -, -, -, -, -, -, hW₁, st1⟩ := Steps.initColdS (tb := p.tables) (e := e) (below := below) (s := s) (U := W) X.here hexec X.warmed hpl hown (t := Bundle.initS rX) rfl rfl (by decide +kernel)
    (a' (.methodLink "EaveRoofs" 272 (Bundle.initS rX)) (by simp [rAt])) (h (.instanceMethod (Bundle.initS rX)) (by simp [rAt, Bundle.passSAtoms])) (bytes := r13) (maxL := 2) (h (.code (Bundle.initS rX) r13 2 none) (by simp [rAt, Bundle.passSAtoms]))
    (f := g) hg (a := a) (msg := msg) (rest := .ref a :: rest) hstack hd6
  cases Option.some.inj (hnC.symm.trans hP1m)
  have X₁ := X.noted hW₁
  have hAll : ∀ P ∈ P1 :: P2 :: Ps, P.LinksS e.platform s := List.forall_mem_cons.mpr ⟨L1, List.forall_mem_cons.mpr ⟨L2, hL⟩⟩
  obtain ⟨vm₂, X₂, st2⟩ := X₁.ctorMessageOffV hexec (g := { g with stack := .ref a :: rest }) hg hsize T L Z LZ M LM (P1 :: P2 :: Ps)
    hAll ⟨hlink1, hlink2, hlink⟩ (u0 := u0) (sen := sen) (self := a) hmsg (cell := freshCell P1.m.cls kX) (cellS := cellS)
    hcell (fun _ => by simp) (by simp) rfl rfl hsel0 hselF hcellS hneS hknownS (by rw [hkeep _ (hout' _)]; exact hu0) (by rw [hkeep _ (hout' _)]; exact hsen)
    (Takes.of_laid hk hord tyC (by rw [Y.causeType]; rfl)) (Takes.of_laid hk hord tyS (by rw [Y.stackType]; exact fits_refV_array _ u0)) (Takes.of_laid hk hord tyP (by rw [Y.suppType]; exact fits_refV_object _ sen))
    (Takes.of_laid hk hord tyM (by rw [Y.msgType]; exact fits_refV_object _ ⟨msg, hmsg⟩)) Y.objLocals hskip htr [] hd6
    (by simp only [List.length_cons, hlen, List.length_nil]; omega) (by simp only [List.length_cons, hlen, List.length_nil]; exact hRlocals)
  have hlt : a < ((W.setVm vm₁).setVm vm₂).heap.size := (Array.getElem?_eq_some_iff.mp hcell).1
  refine ⟨(W.setVm vm₁).setVm vm₂, _, _, X₂, fun y hy => ?_, hlt, rfl, rfl, fun target hwalk => st1 _ (fun acts => ?_)⟩
  · simp only [List.mem_cons, List.not_mem_nil, or_false] at hy
    rcases hy with rfl | rfl | rfl | rfl | rfl <;> rfl
  · rw [doInvoke_state]
    exact st2 _ hwalk
/-- the four words that the tables' moves don't keep by themselves -/
def rBad : List Cond := [Cond.declares (Bundle.initS rY), Cond.declares (Bundle.initS "java/lang/Exception"), Cond.declares (Bundle.initS Bundle.tN), Cond.castable rX rX]
def rPs : List (Nat × Nat) := [(1, 18), (4, 225), (4, 234), (4, 236), (4, 239), (5, 1), (4, 226), (4, 227), (1, 28), (1, 29), (4, 228), (4, 233), (4, 237), (5, 17), (4, 215), (5, 18), (4, 217), (5, 19), (4, 219), (4, 229), (4, 231), (4, 221), (5, 13), (5, 14), (5, 16), (4, 221), (5, 4), (5, 5), (5, 6), (5, 7), (4, 207), (5, 7), (5, 8), (5, 9), (5, 10), (4, 209), (5, 10), (5, 11), (5, 12), (5, 13), (4, 211), (5, 3), (4, 204), (4, 205), (4, 212), (4, 213), (4, 214), (4, 216), (4, 218), (4, 220), (4, 224), (4, 223), (4, 222)]
theorem rAt_ok : ((rAt.filter vx_no).zip rPs).all (fun q => decide ((eTl q.2.1)[q.2.2]? = some q.1) && (goodWord q.1 || decide (q.1 ∈ rBad))) = true := by decide +kernel
theorem rAt_len : (rAt.filter vx_no).length = rPs.length := by decide +kernel
theorem rAt_ot : (Cond.classLink "EaveRoofs" 268 rX :: Cond.initialized rX :: rAt.filter vx_no).all vx_ot = true := by decide +kernel
theorem rAt_in {w : Cond} (h : w ∈ rAt.filter vx_no) : w ∈ eTb ∨ w ∈ rBad := by
  obtain ⟨i, hi⟩ := List.getElem?_of_mem h
  have hl : i < rPs.length := by rw [← rAt_len]; exact (List.getElem?_eq_some_iff.mp hi).1
  have hz : ((rAt.filter vx_no).zip rPs)[i]? = some (w, rPs[i]) := List.getElem?_zip_eq_some.mpr ⟨hi, List.getElem?_eq_getElem hl⟩
  have := List.all_eq_true.mp rAt_ok _ (List.mem_of_getElem? hz)
  simp only [Bool.and_eq_true, Bool.or_eq_true, decide_eq_true_eq] at this
  rcases this with ⟨h1, h2 | h2⟩
  · exact Or.inl (eMem _ _ h1 h2)
  · exact Or.inr h2
/-- what a throw needs of the state -/
def rZ (E : eE) (sa : Nat) (U : State) : Prop := vx_Zq Bundle.tN "UNASSIGNED_STACK" Bundle.steD (eA E) U U.heap ∧ vx_Zq Bundle.tN "SUPPRESSED_SENTINEL" Bundle.listD (eA E) U U.heap ∧ vk_R "EaveRoofs" 270 "no such row" sa U ∧ ∀ w ∈ rBad, va_Nw w U
theorem rBad_warm {s U : State} (hW : s.WarmedH U.vm) (h : ∀ w ∈ rBad, va_Nw w s) : ∀ w ∈ rBad, va_Nw w U := by
  unfold rBad at h ⊢
  simp only [List.mem_cons, List.not_mem_nil, or_false, forall_eq_or_imp, forall_eq] at h ⊢
  exact ⟨va_Nw.warmD hW h.1, va_Nw.warmD hW h.2.1, va_Nw.warmD hW h.2.2.1, va_Nw.warmC hW h.2.2.2⟩
theorem rZ.move {E : eE} {sa : Nat} {s U : State} {H : Heap} (h : rZ E sa s) (hW : s.WarmedH U.vm) (hH : U.heap = H) (hk : ∀ q : Nat, q < s.heap.size → ¬ eA E q → H[q]? = s.heap[q]?) : rZ E sa U := by
  obtain ⟨h1, h2, h3, h4⟩ := h
  have hk : ∀ a : Nat, a < s.heap.size → ¬ eA E a → U.heap[a]? = s.heap[a]? := fun a g1 g2 => by rw [hH]; exact hk a g1 g2
  exact ⟨(vx_Zq.moved hW.alike h1).kept hk, (vx_Zq.moved hW.alike h2).kept hk, vk_R.warm hW h3, rBad_warm hW h4⟩
section RN
variable {p : Program} {l : Launch} {e : Env} {R : Room} {s : State} {m : MethodId} {args : Array Value} {below : List Frame} {meth : Method} {c : Code} {H : Heap} {locs : List Loc} {cells slots : Nat} {Q : State → Prop} {ls : Array Slot} {rest : List Value}
set_option maxHeartbeats 1000000 in
/-- 'new NoSuchElementException("no such row")' (turned from the kit's text of exceptions) -/
theorem rx_new {cc : ByteArray} {pc : Nat} (hexec : p.tables.exec = Jvm.exec) (hb : c.code = cc) (hl : l.stackTraces = false) {sa : Nat} {A : Nat → Prop}
    (hown : s.vm.findClass "EaveRoofs" = some m.cls) (hk : (Cond.classLink "EaveRoofs" 268 rX).before args s = true) (hini : (Cond.initialized rX).before args s = true) (hstr : vk_R "EaveRoofs" 270 "no such row" sa s) (hat : ∀ w ∈ rAt.filter vx_no, w.before args s = true)
    (hU : vx_Zq Bundle.tN "UNASSIGNED_STACK" Bundle.steD A s s.heap) (hN : vx_Zq Bundle.tN "SUPPRESSED_SENTINEL" Bundle.listD A s s.heap) (hS : va_S A s.heap H locs) (hsize : ls.size = c.maxLocals)
    (d0 : decode cc pc = .ok (.new 268, 3)) (d3 : decode cc (pc + 3) = .ok (.dup, 1)) (d4 : decode cc (pc + 4) = .ok (.ldc_w 270, 3)) (d7 : decode cc (pc + 7) = .ok (.invokespecial 272, 3))
    (hRframes : 5 < R.frames) (hRlocals : (rest.map fun v => v.category).sum + (13 * 3 + 43) ≤ R.locals) (hRcells : cells + 1 ≤ R.cells) (hRslots : slots + 6 ≤ R.slots)
    (kk : ∀ (H1 : Heap) (ce : Cell), H.size ≤ H1.size → (∀ q : Nat, q < H.size → H1[q]? = H[q]?) → H1[H.size]? = some ce → ce.vm = .none → s.vm.findClass rX = some ce.cls → W p l e R s m args below meth c H1 locs (cells + 1) (slots + 6) Q (F0 m (pc + 10) ls (.ref H.size :: rest))) :
    W p l e R s m args below meth c H locs cells slots Q (F0 m pc ls rest) := by
  intro T hT X
  subst hT
  have htr : e.platform.stackTraces = false := (show e.platform.stackTraces = l.stackTraces by rw [X.admits.platform]).trans hl
  have Y := vx_rebase X (R' := { frames := R.frames, locals := R.locals, cells := 1, slots := 6 }) (Nat.le_refl _) (Nat.le_refl _) hRcells hRslots
  obtain ⟨s', hA'⟩ : ∃ z, z = (T.setVm s.vm).setFrames (.invoking m args :: below) := ⟨_, rfl⟩
  rw [← hA'] at Y
  have hvm : s'.vm = s.vm := by rw [hA']; rfl
  have hhp : s'.heap = T.heap := by rw [hA']; rfl
  have hW0 : s.WarmedH s'.vm := by rw [hvm]; exact State.WarmedH.refl s
  have hgood : ∀ w ∈ Cond.classLink "EaveRoofs" 268 rX :: Cond.initialized rX :: rAt.filter vx_no, vx_ot w = true := List.all_eq_true.mp rAt_ot
  have hat' : ∀ w ∈ rAt.filter vx_no, w.before args s' = true := fun w hw => vx_ot_at hW0 hvm.symm (hgood w (List.mem_cons_of_mem _ (List.mem_cons_of_mem _ hw))) (hat w hw)
  have hk' : (Cond.classLink "EaveRoofs" 268 rX).before args s' = true := vx_ot_at hW0 hvm.symm (hgood _ List.mem_cons_self) hk
  have hini' : (Cond.initialized rX).before args s' = true := vx_ot_at hW0 hvm.symm (hgood _ (List.mem_cons_of_mem _ List.mem_cons_self)) hini
  have hU' : vx_Zq Bundle.tN "UNASSIGNED_STACK" Bundle.steD A s' s'.heap := by rw [hhp]; exact vx_Zq.moved hW0.alike (hU.kept hS.2.1)
  have hN' : vx_Zq Bundle.tN "SUPPRESSED_SENTINEL" Bundle.listD A s' s'.heap := by rw [hhp]; exact vx_Zq.moved hW0.alike (hN.kept hS.2.1)
  have h : ∀ w ∈ rAt, w.before args s' = true := vx_own hat' (vx_isRefq hU'.1) (vx_isRefq hN'.1) hU'.2.word hN'.2.word
  have hown' : s'.vm.findClass "EaveRoofs" = some m.cls := by rw [hvm]; exact hown
  have hins : (Cond.instantiable rX 6).before args s' = true := h _ (by simp [rAt])
  obtain ⟨vm₁, cX, kX, hfX, hkX, -, -, X₁, st1⟩ := Y.newCold hexec (own := "EaveRoofs") (C := rX) (index := 268) (n := 6) hown' hk' hins hini'
    (g := F0 m pc ls rest) rfl (by rw [hb]; exact d0) (Nat.le_refl _) (Nat.le_refl _)
  generalize hT1 : (T.setVm vm₁).pushCell { cls := cX, slots := kX.instanceTypes.map defaultValue, vm := .none } = T1 at X₁ st1
  have hcat : (Value.ref T.heap.size).category = 1 := rfl
  have hcellA : T1.heap[T.heap.size]? = some (freshCell cX kX) := by rw [← hT1]; exact State.heap_pushCell_size _ _
  have d3' : decode c.code (pc + 3) = .ok (.dup, 1) := by rw [hb]; exact d3
  have d4' : decode c.code (pc + 4) = .ok (.ldc_w 270, 3) := by rw [hb]; exact d4
  have hstr' : vk_R "EaveRoofs" 270 "no such row" sa s' := vk_R.warm hW0 hstr
  obtain ⟨V, ce, L, Z, hL, hlt, hcl9, hvm9, st⟩ := rx_made X₁ hexec htr hown' h (fun x hx => nomatch hx) hfX hkX hcellA (by rw [hhp]; exact Nat.le_refl _) (msg := .ref sa) rfl
    (g := { method := m, pc := pc + 7, locals := ls, stack := .ref sa :: .ref T.heap.size :: .ref T.heap.size :: rest, locked := none }) rfl hsize (rest := rest) rfl
    (by rw [hb]; exact d7) hRframes (by simp only [List.map_cons, List.sum_cons, hcat]; omega)
  have Z0 := Stand.forget (locs := []) Z (fun y hy => by rw [hL y hy, hhp]; exact Nat.le_refl _)
  obtain ⟨f1, f2⟩ := vx_frame Z0.same
  rw [hhp] at f1 f2
  have hh : (V.setCell T.heap.size ce).heap[T.heap.size]? = some ce := heapAt_setCell_self (s := V) ce hlt
  have hcl : s.vm.findClass rX = some ce.cls := by rw [hcl9, ← hvm]; exact hfX
  subst hA'
  have X5 := vx_back9 X Y Z0
  have X6 : Stand p l e R s m args below meth c (V.setCell T.heap.size ce) locs (cells + 1) (slots + 6) := { X5 with same := X5.same.mono (by omega) (by omega) }
  obtain ⟨t, a1, b1⟩ := kk (V.setCell T.heap.size ce).heap ce f1 (fun q hq => f2 q hq (fun z hz => nomatch hz)) hh hvm9 hcl _ rfl X6
  refine ⟨t, st1 _ ?_, b1⟩
  show Steps p.tables e below (T1.setTop { method := m, pc := pc + 3, locals := ls, stack := .ref T.heap.size :: rest, locked := none }) _
  jvm_step X₁.here [X₁.here.top, hexec, d3', Value.category]
  exact X₁.ldcStringW hexec (own := "EaveRoofs") (text := "no such row") (index := 270) (a := sa) hown' hstr'.1 hstr'.2
    (g := { method := m, pc := pc + 4, locals := ls, stack := .ref T.heap.size :: .ref T.heap.size :: rest, locked := none }) rfl d4' _ (st _ a1)
end RN
