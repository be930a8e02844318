/-! THE LAW's own rules. Cell 98: the script -/
def lX (E : eE) (cL : ClassId) (sa : Nat) (l : Launch) (p : Program) (s : State) (m : MethodId) (meth : Method) (c : Code) (L : Nat) (xs : Nat → Int32) : Prop :=
  lw_At p s m meth c (E.2.1 98) L xs ∧ L ≤ 3072 ∧ va_K E.1 vwCl (eTy E) s ∧ va_K E.1 vwCl [(cL, .long)] s ∧ eOld E s ∧ eAd E ∧ E.2.2.2.2 = s.heap.size ∧ E.2.2.2.2 ≤ E.2.1 99 ∧ l.stackTraces = false ∧ rZ E sa s ∧ ∀ w ∈ eTb, w.before #[Value.ref (E.2.1 98)] s = true
/-- GOES ON, in the law: to its end, with 1 -/
def LGo (E : eE) (cL : ClassId) (l : Launch) (p : Program) (e : Env) (s : State) (m : MethodId) (below : List Frame) (meth : Method) (c : Code) (pc : Nat) (ls : eL) (st : List eV) (w : eW) (f : Nat → Int64) (k n : Nat) : Prop :=
  ∀ (H : Heap) (locs : List Loc) (la : Array Slot), va_P E.1 vwCl (eWs E w) H → oP E cL f H → va_S (lA E) s.heap H locs → lv_has la 7 (ls.map fun q => (q.1, eC E.2.1 q.2)) →
    W p l e room_1 s m #[Value.ref (E.2.1 98)] below meth c H locs k n (lw_Z below #[Value.ref (E.2.1 98)] s) (F0 m pc la (st.map (eC E.2.1)))
section LW
variable {E : eE} {cL : ClassId} {sa : Nat} {l : Launch} {p : Program} {e : Env} {s : State} {m : MethodId} {below : List Frame} {meth : Method} {c : Code} {L : Nat} {xs : Nat → Int32} {pc : Nat} {ls : eL} {st : List eV} {w : eW} {f : Nat → Int64} {k n : Nat}
theorem l_aload {k4 : Fin 4} {i o : Nat} (X : lX E cL sa l p s m meth c L xs) (hd : decode code pc = .ok (.aload_n k4, 1)) (hi : (k4 : Nat) = i) (h : eLg i ls = some (eR o)) (g : LGo E cL l p e s m below meth c (pc + 1) ls (eR o :: st) w f k n) : LGo E cL l p e s m below meth c pc ls st w f k n := by
  intro H locs la hP ho hS hl
  exact lv_aload_n X.1.1 X.1.2.1 hd hi (eLg_at hl h) (g H locs la hP ho hS hl)
theorem l_iload {i : Nat} {x : Int} (X : lX E cL sa l p s m meth c L xs) (hd : decode code pc = .ok (.iload i, 2)) (h : eLg i ls = some (0, x)) (g : LGo E cL l p e s m below meth c (pc + 2) ls ((0, x) :: st) w f k n) : LGo E cL l p e s m below meth c pc ls st w f k n := by
  intro H locs la hP ho hS hl
  exact lv_iload X.1.1 X.1.2.1 hd (eLg_at hl h) (g H locs la hP ho hS hl)
theorem l_iconst {x : Int} (X : lX E cL sa l p s m meth c L xs) (hd : decode code pc = .ok (.iconst x, 1)) (g : LGo E cL l p e s m below meth c (pc + 1) ls ((0, x) :: st) w f k n) : LGo E cL l p e s m below meth c pc ls st w f k n := by
  intro H locs la hP ho hS hl
  exact lv_iconst X.1.1 X.1.2.1 hd rfl (g H locs la hP ho hS hl)
theorem l_bipush {x : Int} (X : lX E cL sa l p s m meth c L xs) (hd : decode code pc = .ok (.bipush x, 2)) (hv : (Int8.ofInt x).toInt32 = Int32.ofInt x) (g : LGo E cL l p e s m below meth c (pc + 2) ls ((0, x) :: st) w f k n) : LGo E cL l p e s m below meth c pc ls st w f k n := by
  intro H locs la hP ho hS hl
  exact lv_bipush X.1.1 X.1.2.1 hd hv (g H locs la hP ho hS hl)
theorem l_iadd {a b : Int} (X : lX E cL sa l p s m meth c L xs) (hd : decode code pc = .ok (.iadd, 1)) (g : LGo E cL l p e s m below meth c (pc + 1) ls ((0, a + b) :: st) w f k n) : LGo E cL l p e s m below meth c pc ls ((0, b) :: (0, a) :: st) w f k n := by
  intro H locs la hP ho hS hl
  refine lv_iadd X.1.1 X.1.2.1 hd ?_
  have h := g H locs la hP ho hS hl
  rw [List.map_cons, show eC E.2.1 (0, a + b) = .int (Int32.ofInt (a + b)) from rfl, Int32.ofInt_add a b] at h
  exact h
theorem l_isub {a b : Int} (X : lX E cL sa l p s m meth c L xs) (hd : decode code pc = .ok (.isub, 1)) (g : LGo E cL l p e s m below meth c (pc + 1) ls ((0, a - b) :: st) w f k n) : LGo E cL l p e s m below meth c pc ls ((0, b) :: (0, a) :: st) w f k n := by
  intro H locs la hP ho hS hl
  refine lv_isub X.1.1 X.1.2.1 hd ?_
  have h := g H locs la hP ho hS hl
  rw [List.map_cons, show eC E.2.1 (0, a - b) = .int (Int32.ofInt (a - b)) from rfl, Int32.ofInt_sub a b] at h
  exact h
/-- the script's i-th int -/
theorem l_sld {i : Nat} (X : lX E cL sa l p s m meth c L xs) (hi : i < L) (hd : decode code pc = .ok (.iaload, 1)) (g : LGo E cL l p e s m below meth c (pc + 1) ls ((0, (xs i).toInt) :: st) w f k n) : LGo E cL l p e s m below meth c pc ls ((0, (i : Int)) :: eR 98 :: st) w f k n := by
  intro H locs la hP ho hS hl
  have hL := X.2.1
  obtain ⟨hx, hb, hr, hml, hown, hts, hXx, hbl, hlk, hgv⟩ := X.1
  have hb0 : ¬ lA E (E.2.1 98) := fun h => by
    have := X.2.2.2.2.2.2.1
    unfold lA at h
    omega
  have hin : vp_in (Int32.ofInt (i : Int)) L := e_in (by omega) (by omega)
  have hcl : (Int32.ofInt (i : Int)).toNatClampNeg = i := by rw [e_clamp (by omega) ⟨by omega, by omega⟩]; omega
  refine va_sld hx hb hXx hbl hb0 hS hin hd ?_
  have h := g H locs la hP ho hS hl
  rw [List.map_cons, show eC E.2.1 (0, (xs i).toInt) = .int (Int32.ofInt (xs i).toInt) from rfl, Int32.ofInt_toInt] at h
  rw [hcl]
  exact h
theorem l_slen (X : lX E cL sa l p s m meth c L xs) (hd : decode code pc = .ok (.arraylength, 1)) (g : LGo E cL l p e s m below meth c (pc + 1) ls ((0, (L : Int)) :: st) w f k n) : LGo E cL l p e s m below meth c pc ls (eR 98 :: st) w f k n := by
  intro H locs la hP ho hS hl
  have hL := X.2.1
  obtain ⟨hx, hb, hr, hml, hown, hts, hXx, hbl, hlk, hgv⟩ := X.1
  have hb0 : ¬ lA E (E.2.1 98) := fun h => by
    have := X.2.2.2.2.2.2.1
    unfold lA at h
    omega
  refine va_slen hx hb hXx hbl hb0 hS hd ?_
  exact g H locs la hP ho hS hl
theorem l_goto {off : Int} {tgt : Nat} (X : lX E cL sa l p s m meth c L xs) (hd : decode code pc = .ok (.goto off, 3)) (ht : (pc : Int) + off = (tgt : Int)) (g : LGo E cL l p e s m below meth c tgt ls st w f k n) : LGo E cL l p e s m below meth c pc ls st w f k n := by
  intro H locs la hP ho hS hl
  exact lv_goto X.1.1 X.1.2.1 hd ht (g H locs la hP ho hS hl)
theorem l_istore {i : Nat} {x : Int} (X : lX E cL sa l p s m meth c L xs) (hd : decode code pc = .ok (.istore i, 2)) (hn : i < 7) (g : LGo E cL l p e s m below meth c (pc + 2) (eLs i (0, x) ls) st w f k n) : LGo E cL l p e s m below meth c pc ls ((0, x) :: st) w f k n := by
  intro H locs la hP ho hS hl
  exact lv_istore X.1.1 X.1.2.1 hd hl hn (eLs_1 (v := (0, x)) (by simp)) (fun la hl => g H locs la hP ho hS hl)
/-- the same on both sides -/
theorem l_same {x off : Int} {tgt : Nat} (X : lX E cL sa l p s m meth c L xs) (hd : decode code pc = .ok (.if_icmp .eq off, 3)) (ht : (pc : Int) + off = (tgt : Int)) (g : LGo E cL l p e s m below meth c tgt ls st w f k n) : LGo E cL l p e s m below meth c pc ls ((0, x) :: (0, x) :: st) w f k n := by
  intro H locs la hP ho hS hl
  exact lv_icmp_eq X.1.1 X.1.2.1 hd ht (fun _ => g H locs la hP ho hS hl) (fun q => absurd rfl q)
theorem l_sameL {x off : Int} {tgt : Nat} (X : lX E cL sa l p s m meth c L xs) (hd : decode code pc = .ok (.lcmp, 1)) (hd2 : decode code (pc + 1) = .ok (.ifCond .eq off, 3)) (ht : ((pc + 1 : Nat) : Int) + off = (tgt : Int)) (g : LGo E cL l p e s m below meth c tgt ls st w f k n) : LGo E cL l p e s m below meth c pc ls ((1, x) :: (1, x) :: st) w f k n := by
  intro H locs la hP ho hS hl
  refine W.lcmp X.1.1 X.1.2.1 hd ?_
  have e0 : lg_cmp (Int64.ofInt x) (Int64.ofInt x) = 0 := by unfold lg_cmp; simp
  rw [e0]
  exact lv_if_eq X.1.1 X.1.2.1 hd2 ht (fun _ => g H locs la hP ho hS hl) (fun q => absurd rfl q)
theorem l_gt {a b off : Int} {tgt : Nat} (X : lX E cL sa l p s m meth c L xs) (hd : decode code pc = .ok (.if_icmp .gt off, 3)) (ht : (pc : Int) + off = (tgt : Int)) (ha : eI a) (hb2 : eI b) (g1 : b < a → LGo E cL l p e s m below meth c tgt ls st w f k n) (g2 : ¬ b < a → LGo E cL l p e s m below meth c (pc + 3) ls st w f k n) : LGo E cL l p e s m below meth c pc ls ((0, b) :: (0, a) :: st) w f k n := by
  intro H locs la hP ho hS hl
  exact lv_icmp_gt X.1.1 X.1.2.1 hd ht (fun q => g1 ((e_lt hb2 ha).mp q) H locs la hP ho hS hl) (fun q => g2 (mt (e_lt hb2 ha).mpr q) H locs la hP ho hS hl)
theorem l_ifeq {a off : Int} {tgt : Nat} (X : lX E cL sa l p s m meth c L xs) (hd : decode code pc = .ok (.ifCond .eq off, 3)) (ht : (pc : Int) + off = (tgt : Int)) (ha : eI a) (g1 : a = 0 → LGo E cL l p e s m below meth c tgt ls st w f k n) (g2 : ¬ a = 0 → LGo E cL l p e s m below meth c (pc + 3) ls st w f k n) : LGo E cL l p e s m below meth c pc ls ((0, a) :: st) w f k n := by
  intro H locs la hP ho hS hl
  have eI_0 : eI 0 := by decide
  exact lv_if_eq X.1.1 X.1.2.1 hd ht (fun q => g1 ((e_eq ha eI_0).mp q) H locs la hP ho hS hl) (fun q => g2 (mt (e_eq ha eI_0).mpr q) H locs la hP ho hS hl)
theorem l_ifne {a off : Int} {tgt : Nat} (X : lX E cL sa l p s m meth c L xs) (hd : decode code pc = .ok (.ifCond .ne off, 3)) (ht : (pc : Int) + off = (tgt : Int)) (ha : eI a) (g1 : ¬ a = 0 → LGo E cL l p e s m below meth c tgt ls st w f k n) (g2 : a = 0 → LGo E cL l p e s m below meth c (pc + 3) ls st w f k n) : LGo E cL l p e s m below meth c pc ls ((0, a) :: st) w f k n := by
  intro H locs la hP ho hS hl
  have eI_0 : eI 0 := by decide
  exact lv_if_ne X.1.1 X.1.2.1 hd ht (fun q => g1 (mt (e_eq ha eI_0).mpr q) H locs la hP ho hS hl) (fun q => g2 ((e_eq ha eI_0).mp q) H locs la hP ho hS hl)
theorem l_iand {a b : Int} (X : lX E cL sa l p s m meth c L xs) (hd : decode code pc = .ok (.iand, 1)) (g : LGo E cL l p e s m below meth c (pc + 1) ls ((0, eAnd a b) :: st) w f k n) : LGo E cL l p e s m below meth c pc ls ((0, b) :: (0, a) :: st) w f k n := by
  intro H locs la hP ho hS hl
  refine lv_iand X.1.1 X.1.2.1 hd ?_
  have h := g H locs la hP ho hS hl
  rw [List.map_cons, show eC E.2.1 (0, eAnd a b) = .int (Int32.ofInt (eAnd a b)) from rfl, eAnd, Int32.ofInt_toInt] at h
  exact h
theorem l_table {dflt lo hi : Int} {offs : Array Int} {len : Nat} {x off : Int} {tgt : Nat} (X : lX E cL sa l p s m meth c L xs) (hd : decode code pc = .ok (.tableswitch dflt lo hi offs, len)) (hx : eI x) (h1 : lo ≤ x) (h2 : x ≤ hi) (ho0 : offs[(x - lo).toNat]? = some off) (ht : (pc : Int) + off = (tgt : Int)) (g : LGo E cL l p e s m below meth c tgt ls st w f k n) : LGo E cL l p e s m below meth c pc ls ((0, x) :: st) w f k n := by
  intro H locs la hP ho hS hl
  exact lv_tableIn X.1.1 X.1.2.1 hd (by rw [eI_toInt hx]; omega) (by rw [eI_toInt hx]; omega) (by rw [eI_toInt hx]; exact ho0) ht (g H locs la hP ho hS hl)
theorem l_tableO {dflt lo hi : Int} {offs : Array Int} {len : Nat} {x : Int} {tgt : Nat} (X : lX E cL sa l p s m meth c L xs) (hd : decode code pc = .ok (.tableswitch dflt lo hi offs, len)) (hx : eI x) (h1 : x < lo ∨ hi < x) (ht : (pc : Int) + dflt = (tgt : Int)) (g : LGo E cL l p e s m below meth c tgt ls st w f k n) : LGo E cL l p e s m below meth c pc ls ((0, x) :: st) w f k n := by
  intro H locs la hP ho hS hl
  exact lv_tableOut X.1.1 X.1.2.1 hd (by rw [eI_toInt hx]; exact h1) ht (g H locs la hP ho hS hl)
theorem l_pre (X : lX E cL sa l p s m meth c L xs) {H : Heap} {locs : List Loc} (hP : va_P E.1 vwCl (eWs E w) H) (hS : va_S (lA E) s.heap H locs) (U : State) (hU : U.heap = H) (hW : s.WarmedH U.vm) : ePre E w U := by
  have h5 := X.2.2.2.2.2.2.1
  refine ⟨by rw [hU, h5]; exact hS.1, by rw [hU]; exact hP, va_K.moved hW.alike X.2.2.1, eOld.move (s := s) (H := H) (locs := []) X.2.2.2.2.1 hW hU ⟨hS.1, fun q h1 _ => hS.2.1 q h1 (fun h => ?_), fun _ h => nomatch h⟩⟩
  unfold lA at h
  omega
/-- a call of the class or the model -/
theorem l_call {Mc : eM} {o idx ci na : Nat} {w1 : eW} {x : eV} {rest : List eV} (as : List eV) (X : lX E cL sa l p s m meth c L xs) (hd : decode code pc = .ok (.invokevirtual idx, 3)) (hl2 : eVl "EaveRoofsLaw" idx Mc na) (hfit : Mc.2.2.2.2.1 + 1 ≤ 11 ∧ 8 + (Mc.2.2.1 + 11) + Mc.2.2.2.2.2 ≤ 390) (ho0 : o < eN) (hc : (eKd o).1 = ci ∧ ci < 9 ∧ ∃ q, vwCl[ci]? = some q ∧ q.1 = Mc.1.cls) (hn : as.length = na) (hst : st = as.reverse ++ eR o :: rest) (hcat : (rest.map fun v => if v.1 = 1 then 2 else 1).sum ≤ 8) (hroom : k ≤ 1087 ∧ n ≤ 23248)
    (hcal : Cal Mc (eR o :: as) w (some x) w1) (g : LGo E cL l p e s m below meth c (pc + 3) ls (x :: rest) w1 f k n) : LGo E cL l p e s m below meth c pc ls st w f k n := by
  intro H locs la hP ho hS hl
  obtain ⟨hx, hb, hr, hml, hown, hts, hXx, hbl, hlk, hgv⟩ := X.1
  subst hst
  rw [eStk]
  refine w_call (E := E) (Mc := Mc) (w := w) (A0 := lA E) (H0 := s.heap) (rest := rest.map (eC E.2.1)) (o := o) (ci := ci) (na := na) (nL := 7) as ⟨hx, hb, hml, hown, X.2.2.2.2.2.2.2.2.2.2⟩ X.2.2.2.2.2.1 X.2.2.1 (l_pre X hP hS) hP hS lA_of hl.1 hd hl2 hfit ho0 hc hn (by rw [eCat]; exact hcat) hroom hcal (fun H1 locs1 hP1 hk1 hz1 hS1 => ?_)
  exact g H1 locs1 la hP1 (ho.kept hk1) hS1 hl
/-- the law's row, called -/
theorem l_row {y kk : Int} {f2 : Nat → Int64} {rest : List eV} {k2 n2 : Nat} (X : lX E cL sa l p s m meth c L xs) (hd : decode code pc = .ok (.invokestatic 156, 3)) (hst : st = [eR 99, (0, y), eR 0] ++ rest) (hcat : (rest.map fun v => if v.1 = 1 then 2 else 1).sum ≤ 8) (hk2 : k + 1 = k2) (hn2 : n + 6 = n2) (hroom : k2 ≤ 1087 ∧ n2 ≤ 23248)
    (hM : vx_Met l yL_row wL_row rmL (va_Pc [.ref (E.2.1 0), .int (Int32.ofInt y), .ref (E.2.1 99)] (lP E cL f w sa)) (lQ E cL w kk f2) (lNo E) 1 6 (lA E))
    (g : LGo E cL l p e s m below meth c (pc + 3) ls ((0, kk) :: rest) w f2 k2 n2) : LGo E cL l p e s m below meth c pc ls st w f k n := by
  intro H locs la hP ho hS hl
  obtain ⟨hx, hb, hr, hml, hown, hts, hXx, hbl, hlk, hgv⟩ := X.1
  subst hst
  subst hk2
  subst hn2
  have hEt := X.2.2.2.2.2.2.2.2.2.2
  have h5 := X.2.2.2.2.2.2.1
  have hgood : GoodIn eTb (va_wsS "EaveRoofsLaw" 156 yL_row wL_row) := by
    intro w hw
    unfold va_wsS wL_row at hw
    simp only [List.cons_append, List.nil_append, List.mem_cons] at hw
    rcases hw with rfl | rfl | rfl | rfl | hw
    · exact eTb_good (eMem 4 195 rfl rfl)
    · exact eTb_good (eMem 4 196 rfl rfl)
    · exact eTb_good (eMem 1 0 rfl rfl)
    · exact eTb_good (eMem 4 197 rfl rfl)
    · exact eTb_good hw
  have hrun := vx_runSX (l := l) (e := e) (R := room_1) (below := below) (meth := meth) (H := H) (locs := locs) (cells := k) (slots := n) (n := 3) (As := [.ref (E.2.1 0), .int (Int32.ofInt y), .ref (E.2.1 99)]) (rest := rest.map (eC E.2.1)) (g := F0 m pc la (([eR 99, (0, y), eR 0] ++ rest).map (eC E.2.1))) (bytes := cL_row) (maxL := 4) (ret := some .int) (hh := [(0, 9, 12, 13)]) (index := 156) (own := "EaveRoofsLaw") (Ts := eTb) (cc := code) (nL := 7) ⟨hx, hb, hml, hown, hEt⟩ hM (vx_cwSW 3 hEt hgood rfl rfl rfl (by decide +kernel) (by decide)) ⟨lP.blind, fun U hU hW => ⟨rfl, l_pre X hP hS U hU hW, X.2.2.2.2.2.2.2.2.2.1.move hW hU (fun q h1 h2 => hS.2.1 q h1 (fun h => by unfold lA at h; omega)), by rw [hU]; exact ho, va_K.moved hW.alike X.2.2.2.1⟩⟩ rfl rfl hl.1 rfl (lv_room (by rw [eCat]; exact hcat)) hd hroom
  refine vx_calli hrun hS (fun q _ h => h) (fun q h => h) (fun q _ h => h) (fun X9 ce q9 u t H1 locs1 ht hvm hf => hf.elim) (fun r u t H1 locs1 ht hvm hr1 hB1 hz1 hk1 hS1 => ?_)
  obtain ⟨hP1, ho1⟩ := hB1
  rw [ht] at hP1 ho1
  rw [hr1]
  exact g H1 locs1 la hP1 ho1 hS1 hl
theorem l_lald {f0 : Int} (X : lX E cL sa l p s m meth c L xs) (hd : decode code pc = .ok (.laload, 1)) (hf : f 0 = Int64.ofInt f0) (g : LGo E cL l p e s m below meth c (pc + 1) ls ((1, f0) :: st) w f k n) : LGo E cL l p e s m below meth c pc ls ((0, 0) :: eR 99 :: st) w f k n := by
  intro H locs la hP ho hS hl
  refine va_lald (D := E.1) (cl := vwCl) (tys := [(cL, .long)]) (ws := [oW E cL f]) (a := E.2.1 99) (cA := cL) (n := 1) (f := f) X.1.1 X.1.2.1 X.2.2.2.1 ho 0 0 rfl rfl (i := Int32.ofInt 0) (e_in (n := 1) (by decide) (by decide)) hd ?_
  have h := g H locs la hP ho hS hl
  rw [List.map_cons, show eC E.2.1 (1, f0) = .long (Int64.ofInt f0) from rfl, ← hf] at h
  exact h
theorem l_i2l {a : Int} (X : lX E cL sa l p s m meth c L xs) (hd : decode code pc = .ok (.i2l, 1)) (ha : eI a) (g : LGo E cL l p e s m below meth c (pc + 1) ls ((1, a) :: st) w f k n) : LGo E cL l p e s m below meth c pc ls ((0, a) :: st) w f k n := by
  intro H locs la hP ho hS hl
  refine lv_i2l X.1.1 X.1.2.1 hd ?_ (g H locs la hP ho hS hl)
  apply Int64.toInt_inj.mp
  rw [Int32.toInt_toInt64, eI_toInt ha, eJ_toInt ⟨by have := ha.1; omega, by have := ha.2; omega⟩]
theorem l_widen (k2 n2 : Nat) (h1 : k ≤ k2) (h2 : n ≤ n2) (g : LGo E cL l p e s m below meth c pc ls st w f k2 n2) : LGo E cL l p e s m below meth c pc ls st w f k n := fun H locs la hP ho hS hl => W.widen h1 h2 (g H locs la hP ho hS hl)
theorem l_sub {ls2 : eL} (h : ∀ q ∈ ls2, q ∈ ls) (g : LGo E cL l p e s m below meth c pc ls2 st w f k n) : LGo E cL l p e s m below meth c pc ls st w f k n := by
  intro H locs la hP ho hS hl
  refine g H locs la hP ho hS ⟨hl.1, hl.2.1, fun q hq => ?_⟩
  obtain ⟨z, hz, e⟩ := List.mem_map.mp hq
  exact hl.2.2 q (List.mem_map.mpr ⟨z, h z hz, e⟩)
/-- the law's end -/
theorem l_end (X : lX E cL sa l p s m meth c L xs) (hd : decode code pc = .ok (.iconst 1, 1)) (hd2 : decode code (pc + 1) = .ok (.ireturn, 1)) (h1 : k ≤ 1087) (h2 : n ≤ 23248) : LGo E cL l p e s m below meth c pc ls [] w f k n := by
  intro H locs la hP ho hS hl
  obtain ⟨hx, hb, hr, hml, hown, hts, hXx, hbl, hlk, hgv⟩ := X.1
  have h5 := X.2.2.2.2.2.2.1
  refine lv_iconst (v := 1) hx hb hd (by decide) ?_
  refine va_forget (fun q hq => by rw [← h5]; exact hS.2.2 q hq) ?_
  refine W.widen (k := 1087) (n := 23248) h1 h2 ?_
  exact lw_ret hx hb hr hlk hd2
end LW
