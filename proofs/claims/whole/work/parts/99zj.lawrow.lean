/-! the law's own row, with its catch. Cell 99: the law's long row of one place -/
def kL_row : List (Nat × Instr × Nat) := [(0, .aload_n 2, 1), (1, .iconst 0, 1), (2, .aload_n 0, 1), (3, .iload_n 1, 1), (4, .invokevirtual 7, 3), (7, .i2l, 1), (8, .lastore, 1), (9, .goto 6, 3), (12, .astore_n 3, 1), (13, .iconst 1, 1), (14, .ireturn, 1), (15, .iconst 0, 1), (16, .ireturn, 1)]
theorem DL_row : kL_row.map (fun q => decode cL_row q.1) = kL_row.map (fun q => Except.ok (q.2.1, q.2.2)) := by decide +kernel
def oW (E : eE) (cL : ClassId) (f : Nat → Int64) : Nat × va_E := (E.2.1 99, .inl (cL, 1, .inr (.inl f)))
def oP (E : eE) (cL : ClassId) (f : Nat → Int64) (H : Heap) : Prop := va_P E.1 vwCl [oW E cL f] H
def lA (E : eE) : Nat → Prop := fun q => E.2.2.2.2 ≤ q
theorem lA_of {E : eE} : ∀ q, eA E q → lA E q := fun _ h => h.1
theorem not_eA {E : eE} : ¬ eA E (E.2.1 99) := fun h => h.2 rfl
theorem oP.lt {E : eE} {cL : ClassId} {f : Nat → Int64} {H : Heap} (h : oP E cL f H) : E.2.1 99 < H.size := (h 0 _ rfl).lt
theorem oP.kept {E : eE} {cL : ClassId} {f : Nat → Int64} {H H1 : Heap} (h : oP E cL f H) (hk : ∀ q : Nat, q < H.size → ¬ eA E q → H1[q]? = H[q]?) : oP E cL f H1 := by
  refine va_P.kept h (fun k q hq => ?_)
  have hz : k < 1 := (List.getElem?_eq_some_iff.mp hq).1
  rw [show k = 0 by omega] at hq
  cases hq
  exact hk _ h.lt not_eA
def lP (E : eE) (cL : ClassId) (f : Nat → Int64) (w : eW) (sa : Nat) (U : State) : Prop := ePre E w U ∧ rZ E sa U ∧ oP E cL f U.heap ∧ va_K E.1 vwCl [(cL, .long)] U
theorem rZ.calling {E : eE} {sa : Nat} {U : State} {g : JFrame} {mk : MethodId} {a : Array Value} (h : rZ E sa U) : rZ E sa (U.calling g mk a) := h.move (State.WarmedH.refl U) rfl (fun _ _ _ => rfl)
theorem lP.blind {E : eE} {cL : ClassId} {f : Nat → Int64} {w : eW} {sa : Nat} {av : List Value} : FrameBlind (va_Pc av (lP E cL f w sa)) := by
  intro a U g mk h
  obtain ⟨h0, ⟨h1, h2, h3, h4⟩, h5, h6, h7⟩ := h
  exact ⟨h0, ⟨h1, h2, va_K.moved (u := U) (U := U.calling g mk a) (Vm.Alike.refl U.vm) h3, eOld.move (s := U) (locs := []) h4 (State.WarmedH.refl U) rfl va_S.rf⟩, h5.calling, h6, va_K.moved (u := U) (U := U.calling g mk a) (Vm.Alike.refl U.vm) h7⟩
theorem rT_blind {E : eE} {w : eW} {sa : Nat} {av : List Value} : FrameBlind (va_Pc av (fun U => ePre E w U ∧ rZ E sa U)) := by
  intro a U g mk h
  obtain ⟨h0, ⟨h1, h2, h3, h4⟩, h5⟩ := h
  exact ⟨h0, ⟨h1, h2, va_K.moved (u := U) (U := U.calling g mk a) (Vm.Alike.refl U.vm) h3, eOld.move (s := U) (locs := []) h4 (State.WarmedH.refl U) rfl va_S.rf⟩, h5.calling⟩
def wL_row : List Cond := .codeWith yL_row cL_row 4 (some .int) [(0, 9, 12, 13)] :: eTb
def rmL : Room := { frames := 8, cells := 1, slots := 6, locals := 130 }
def lQ (E : eE) (cL : ClassId) (w : eW) (k : Int) (f : Nat → Int64) : Array Value → State → Outcome → State → Prop := va_Qi (fun r (_ : Unit) => r = Int32.ofInt k) (fun _ t => va_P E.1 vwCl (eWs E w) t.heap ∧ oP E cL f t.heap) (lA E)
def lNo (E : eE) : String → State → State → Prop := vx_X (S := Unit) (fun _ => False) (fun _ _ _ => True) (lA E)
/-- the world with the law's row behind it -/
theorem eWo_D {E : eE} (hA : eAd E) (h99 : E.2.2.2.2 ≤ E.2.1 99) (cL : ClassId) (f : Nat → Int64) (w : eW) : va_D (lA E) (eWs E w ++ [oW E cL f]) := by
  refine va_D.app ((eWs_D hA w).weaken (fun _ q _ h => lA_of q.1 h)) ⟨fun i j p q hi hj _ => ?_, fun k q hk => ?_⟩ (fun i j x y hx hy e => ?_)
  · have h1 : i < 1 := (List.getElem?_eq_some_iff.mp hi).1
    have h2 : j < 1 := (List.getElem?_eq_some_iff.mp hj).1
    omega
  · have hz : k < 1 := (List.getElem?_eq_some_iff.mp hk).1
    rw [show k = 0 by omega] at hk
    cases hk
    exact h99
  · have hz : j < 1 := (List.getElem?_eq_some_iff.mp hy).1
    rw [show j = 0 by omega] at hy
    cases hy
    have h1 := (eWs_D hA w).2 i x hx
    rw [e] at h1
    exact not_eA h1
section LR
variable (E : eE) (l : Launch) (cL : ClassId) (f : Nat → Int64) (w : eW) (y : Int) (sa : Nat)
set_option maxHeartbeats 1000000 in
theorem lrow_1 (hA : eAd E) (h99 : E.2.2.2.2 ≤ E.2.1 99) (hr : Cal mX7_row [eR 0, (0, y)] w (some (0, w 3 y)) w) (hv3 : eI (w 3 y)) :
    vx_Met l yL_row wL_row rmL (va_Pc [.ref (E.2.1 0), .int (Int32.ofInt y), .ref (E.2.1 99)] (lP E cL f w sa)) (lQ E cL w 0 (vp_updL f 0 (Int64.ofInt (w 3 y)))) (lNo E) 1 6 (lA E) := by
  refine vx_ofWH (cc := cL_row) (maxL := 4) (ret := some .int) (hh := [(0, 9, 12, 13)]) (ws' := eTb) (by decide +kernel) rfl ?_
  intro p e s m args below meth c s₁ B hml hv
  obtain ⟨rfl, ⟨hz, hP, hK, hO⟩, hZ, ho, hKl⟩ := hv
  have hts := atoms_spec (ws := wL_row) B.pre
  have hts' : ∀ w ∈ eTb, w.before ([.ref (E.2.1 0), .int (Int32.ofInt y), .ref (E.2.1 99)] : List Value).toArray s = true := fun w h => hts w (List.mem_cons_of_mem _ h)
  have hown : s.vm.findClass "EaveRoofsLaw" = some m.cls := findClass_of_methodNamed B.named
  have hx := B.exec
  have hb := B.bytes
  have hret := B.returns
  have hlk := B.notSynchronized
  have hl0 := lv_entry ([.ref (E.2.1 0), .int (Int32.ofInt y), .ref (E.2.1 99)]) (n := 4) (Nat.le_of_ble_eq_true rfl)
  rw [lg_entry_eq]
  generalize (lg_sl ([.ref (E.2.1 0), .int (Int32.ofInt y), .ref (E.2.1 99)]) ++ List.replicate (4 - (lg_sl ([.ref (E.2.1 0), .int (Int32.ofInt y), .ref (E.2.1 99)])).length) Slot.unset).toArray = la at hl0 ⊢
  have hl0 : lv_has la 4 [(0, .ref (E.2.1 0)), (1, .int (Int32.ofInt y)), (2, .ref (E.2.1 99))] := hl0
  have hS : va_S (lA E) s.heap s.heap [] := va_S.rf
  refine lv_aload_n hx hb (eD DL_row 0 rfl) rfl (lv_at hl0 2 rfl) ?_
  refine lv_iconst (v := Int32.ofInt 0) hx hb (eD DL_row 1 rfl) rfl ?_
  refine lv_aload_n hx hb (eD DL_row 2 rfl) rfl (lv_at hl0 0 rfl) ?_
  refine lv_iload_n hx hb (eD DL_row 3 rfl) rfl (lv_at hl0 1 rfl) ?_
  refine w_call (E := E) (Mc := mX7_row) (w := w) (A0 := lA E) (H0 := s.heap) (rest := [.int (Int32.ofInt 0), .ref (E.2.1 99)]) (o := 0) (ci := 7) (na := 1) [(0, y)] ⟨hx, hb, hml, hown, hts'⟩ hA hK (fun U hU hW => ⟨by rw [hU]; exact hz, by rw [hU]; exact hP, va_K.moved hW.alike hK, eOld.move (s := s) (locs := []) hO hW hU va_S.rf⟩) hP hS lA_of hl0.1 (eD DL_row 4 rfl) ⟨eMem 4 199 rfl rfl, sX7_row⟩ (by decide) (by decide) ⟨rfl, by decide, _, rfl, rfl⟩ rfl (Nat.le_of_ble_eq_true rfl) (by decide) hr (fun H1 locs1 hP1 hk1 hz1 hS1 => ?_)
  show W p l e _ s m _ below meth c H1 locs1 0 0 _ (F0 m 7 la [.int (Int32.ofInt (w 3 y)), .int (Int32.ofInt 0), .ref (E.2.1 99)])
  refine lv_i2l (v := Int64.ofInt (w 3 y)) hx hb (eD DL_row 5 rfl) (by
    apply Int64.toInt_inj.mp
    rw [Int32.toInt_toInt64, eI_toInt hv3, eJ_toInt ⟨by have := hv3.1; omega, by have := hv3.2; omega⟩]) ?_
  have ho1 := ho.kept hk1
  have hlen : (eWs E w ++ [oW E cL f])[61]? = some (oW E cL f) := by
    rw [List.getElem?_append_right (by rw [eWs_len]; decide), eWs_len]
    rfl
  refine va_last (D := E.1) (cl := vwCl) (tys := [(cL, .long)]) (ws := eWs E w ++ [oW E cL f]) (A := lA E) (a := E.2.1 99) (cA := cL) (n := 1) (f := f) hx hb hKl (hP1.app ho1) (eWo_D hA h99 cL f w) hS1 61 0 hlen rfl (e_in (n := 1) (by decide) (by decide)) (eD DL_row 6 rfl) (fun H2 locs2 hP2 hD2 hS2 => ?_)
  have hset : (eWs E w ++ [oW E cL f]).set 61 (E.2.1 99, .inl (cL, 1, .inr (.inl (vp_updL f (Int32.ofInt 0).toNatClampNeg (Int64.ofInt (w 3 y)))))) = eWs E w ++ [oW E cL (vp_updL f 0 (Int64.ofInt (w 3 y)))] := by
    rw [List.set_append_right _ _ (by rw [eWs_len]; decide), eWs_len]
    rfl
  rw [hset] at hP2
  have hPw : va_P E.1 vwCl (eWs E w) H2 := fun k q hk => hP2 k q (by rw [List.getElem?_append_left (List.getElem?_eq_some_iff.mp hk).1]; exact hk)
  have hPo : oP E cL (vp_updL f 0 (Int64.ofInt (w 3 y))) H2 := fun k q hk => by
    have hz : k < 1 := (List.getElem?_eq_some_iff.mp hk).1
    refine hP2 (61 + k) q ?_
    rw [List.getElem?_append_right (by rw [eWs_len]; exact Nat.le_add_right 61 k), eWs_len, show 61 + k - eN = k by show 61 + k - 61 = k; omega]
    exact hk
  refine lv_goto (tgt := 15) hx hb (eD DL_row 7 rfl) (by decide) ?_
  refine lv_iconst (v := Int32.ofInt 0) hx hb (eD DL_row 11 rfl) rfl ?_
  refine W.widen (k := 1) (n := 6) (by decide) (by decide) ?_
  refine vx_ret ?_
  exact W.iret (v := Int32.ofInt 0) hx hb hret (fun t ht hW => ⟨⟨Int32.ofInt 0, (), rfl, rfl, by rw [ht]; exact hPw, by rw [ht]; exact hPo⟩, hS2.F ht⟩) hS2.2.2 (eD DL_row 12 rfl) hlk
set_option maxHeartbeats 1000000 in
theorem lrow_0 (hA : eAd E) (hl : l.stackTraces = false) (hB : HB w) (hy : eI y) (hno : ¬ (0 < w 2 0 ∧ 0 ≤ y ∧ y < w 2 1)) :
    vx_Met l yL_row wL_row rmL (va_Pc [.ref (E.2.1 0), .int (Int32.ofInt y), .ref (E.2.1 99)] (lP E cL f w sa)) (lQ E cL w 1 f) (lNo E) 1 6 (lA E) := by
  refine vx_ofWH (cc := cL_row) (maxL := 4) (ret := some .int) (hh := [(0, 9, 12, 13)]) (ws' := eTb) (by decide +kernel) rfl ?_
  intro p e s m args below meth c s₁ B hml hv
  obtain ⟨rfl, ⟨hz, hP, hK, hO⟩, hZ, ho, hKl⟩ := hv
  have hts := atoms_spec (ws := wL_row) B.pre
  have htab := vx_table (x := yL_row) B (hts _ List.mem_cons_self)
  have hts' : ∀ w ∈ eTb, w.before ([.ref (E.2.1 0), .int (Int32.ofInt y), .ref (E.2.1 99)] : List Value).toArray s = true := fun w h => hts w (List.mem_cons_of_mem _ h)
  have hown : s.vm.findClass "EaveRoofsLaw" = some m.cls := findClass_of_methodNamed B.named
  have hx := B.exec
  have hb := B.bytes
  have hret := B.returns
  have hlk := B.notSynchronized
  have hl0 := lv_entry ([.ref (E.2.1 0), .int (Int32.ofInt y), .ref (E.2.1 99)]) (n := 4) (Nat.le_of_ble_eq_true rfl)
  rw [lg_entry_eq]
  generalize (lg_sl ([.ref (E.2.1 0), .int (Int32.ofInt y), .ref (E.2.1 99)]) ++ List.replicate (4 - (lg_sl ([.ref (E.2.1 0), .int (Int32.ofInt y), .ref (E.2.1 99)])).length) Slot.unset).toArray = la at hl0 ⊢
  have hl0 : lv_has la 4 [(0, .ref (E.2.1 0)), (1, .int (Int32.ofInt y)), (2, .ref (E.2.1 99))] := hl0
  have hS : va_S (lA E) s.heap s.heap [] := va_S.rf
  refine lv_aload_n hx hb (eD DL_row 0 rfl) rfl (lv_at hl0 2 rfl) ?_
  refine lv_iconst (v := Int32.ofInt 0) hx hb (eD DL_row 1 rfl) rfl ?_
  refine lv_aload_n hx hb (eD DL_row 2 rfl) rfl (lv_at hl0 0 rfl) ?_
  refine lv_iload_n hx hb (eD DL_row 3 rfl) rfl (lv_at hl0 1 rfl) ?_
  have hg := eWs_get E w (o := 0) (by decide)
  rw [eEn_obj (o := 0) (ci := 7) rfl (by decide)] at hg
  obtain ⟨v2, v3, v4, v5, v6, v7, v8⟩ := sX7_row
  have hrun := vx_runV (l := l) (e := e) (R := rmL) (below := below) (meth := meth) (H := s.heap) (locs := []) (cells := 0) (slots := 0) (C := RX7) (n := 1) (b := E.2.1 0) (As := [.int (Int32.ofInt y)]) (rest := [.int (Int32.ofInt 0), .ref (E.2.1 99)]) (g := F0 m 4 la [.int (Int32.ofInt y), .ref (E.2.1 0), .int (Int32.ofInt 0), .ref (E.2.1 99)]) (bytes := cX7_row) (maxL := 2) (ret := some .int) (index := 7) (own := "EaveRoofsLaw") (Ts := eTb) (cc := cL_row) (nL := 4) ⟨hx, hb, hml, hown, hts'⟩ (row_throws E l hA hl w y sa hB hy hno) ⟨callB_of 1 hts' (eWd_good (Mc := mX7_rowT) v5) rfl rfl rfl (hts' _ v4) (hts' _ (eMem 4 199 rfl rfl)) ⟨v6, v7, v8⟩ (by decide), hts' _ v2, hts' _ v3⟩ ⟨rT_blind, va_recv hK hP rfl hg, fun U hU hW => ⟨rfl, ⟨by rw [hU]; exact hz, by rw [hU]; exact hP, va_K.moved hW.alike hK, eOld.move (s := s) (locs := []) hO hW hU va_S.rf⟩, hZ.move hW hU (fun _ _ _ => rfl)⟩⟩ rfl rfl hl0.1 rfl (lv_room (Nat.le_of_ble_eq_true rfl)) (eD DL_row 4 rfl) ⟨by decide, by decide⟩
  refine vx_calli hrun hS (fun q _ h => lA_of q h) lA_of (fun q _ h => lA_of q h) (fun X ce q9 u t H1 locs1 ht hvm _ hB1 hz1 hk1 hS1 hce hcv hcl => ?_) (fun r u t H1 locs1 ht hvm hf => hf.elim)
  obtain ⟨rfl, hP1⟩ := hB1
  rw [ht] at hP1
  have ho1 := ho.kept hk1
  refine vx_catch (own := "EaveRoofsLaw") (name := rX) (E := rX) (ce := ce) hown [] { startPc := 0, endPc := 9, handlerPc := 12, catchType := 13 } [] htab (fun z hz => nomatch hz) rfl (by decide) (hts' _ (eMem 4 198 rfl rfl)) (va_Nw.use rfl (hZ.2.2.2 (Cond.castable rX rX) (by simp [rBad]))) hce hcv hcl ?_
  refine lv_astore_n (lv' := [(3, .ref q9), (0, .ref (E.2.1 0)), (1, .int (Int32.ofInt y)), (2, .ref (E.2.1 99))]) hx hb (eD DL_row 8 rfl) rfl hl0 (by decide) rfl (fun la2 hl2 => ?_)
  refine lv_iconst (v := Int32.ofInt 1) hx hb (eD DL_row 9 rfl) rfl ?_
  refine vx_ret ?_
  exact W.iret (v := Int32.ofInt 1) hx hb hret (fun t ht hW => ⟨⟨Int32.ofInt 1, (), rfl, rfl, by rw [ht]; exact hP1, by rw [ht]; exact ho1⟩, hS1.F ht⟩) hS1.2.2 (eD DL_row 10 rfl) hlk
end LR
