/-! calls from outside: the class's row, the law's row -/
section WC
variable {E : eE} {M Mc : eM} {p : Program} {l : Launch} {e : Env} {R : Room} {s : State} {m : MethodId} {args : Array Value} {below : List Frame} {meth : Method} {c : Code} {H : Heap} {locs : List Loc} {Q : State → Prop} {la : Array Slot} {pc : Nat} {w w1 : eW} {res : Option eV} {k n : Nat} {A0 : Nat → Prop} {H0 : Heap} {cc : ByteArray} {nL : Nat} {own : String}
/-- a call of ours, the world's cells by eA, the caller's by A0 -/
theorem w_call {o idx ci na : Nat} {rest : List Value} (as : List eV) (S : CallFix p m c cc nL s args eTb own) (hA : eAd E) (hK : va_K E.1 vwCl (eTy E) s) (hpre : ∀ U : State, U.heap = H → s.WarmedH U.vm → ePre E w U) (hP : va_P E.1 vwCl (eWs E w) H) (hS : va_S A0 H0 H locs) (hA0 : ∀ q, eA E q → A0 q) (hsz : la.size = nL)
    (hd : decode cc pc = .ok (.invokevirtual idx, 3)) (hl2 : eVl own idx Mc na) (hfit : Mc.2.2.2.2.1 + 1 ≤ R.frames ∧ 8 + (Mc.2.2.1 + 11) + Mc.2.2.2.2.2 ≤ R.locals) (ho : o < eN) (hc : (eKd o).1 = ci ∧ ci < 9 ∧ ∃ q, vwCl[ci]? = some q ∧ q.1 = Mc.1.cls) (hn : as.length = na) (hcat : (rest.map fun v => v.category).sum ≤ 8) (hroom : k ≤ R.cells ∧ n ≤ R.slots)
    (hcal : Cal Mc (eR o :: as) w res w1)
    (kk : ∀ (H1 : Heap) (locs1 : List Loc), va_P E.1 vwCl (eWs E w1) H1 → (∀ q : Nat, q < H.size → ¬ eA E q → H1[q]? = H[q]?) → H.size ≤ H1.size → va_S A0 H0 H1 locs1 → W p l e R s m args below meth c H1 locs1 k n Q (F0 m (pc + 3) la ((res.map (eC E.2.1)).toList ++ rest))) :
    W p l e R s m args below meth c H locs k n Q (F0 m pc la ((as.map (eC E.2.1)).reverse ++ .ref (E.2.1 o) :: rest)) := by
  obtain ⟨v1, v2, v3, v4, v5, v6, v7, v8⟩ := hl2
  obtain ⟨hco, hci, q, hq, hqc⟩ := hc
  have hts := S.2.2.2.2
  have hg := eWs_get E w ho
  rw [eEn_obj hco hci] at hg
  have hrecv := va_recv hK hP hq hg
  rw [hqc] at hrecv
  have hr := va_runV (l := l) (e := e) (R := R) (below := below) (meth := meth) (locs := locs) (cells := k) (slots := n) (C := Mc.1.cls) (n := na) (b := E.2.1 o) (As := as.map (eC E.2.1)) (rest := rest) (g := F0 m pc la ((as.map (eC E.2.1)).reverse ++ .ref (E.2.1 o) :: rest)) (bytes := Mc.2.1) (maxL := Mc.2.2.1) (ret := Mc.2.2.2.1) S (hcal E l hA) ⟨callB_of na hts (eWd_good v5) rfl rfl rfl (hts _ v4) (hts _ v1) ⟨v6, v7, v8⟩ hfit, hts _ v2, hts _ v3⟩ ⟨ePre_blind, hrecv, fun U hU hW => ⟨rfl, hpre U hU hW⟩⟩ rfl (by rw [List.length_map]; exact hn) hsz rfl (lv_room hcat) hd ⟨hroom.1, hroom.2⟩
  intro T hT X
  obtain ⟨v, st₀, t, T', L, h0, X', hL, e1, e2, ⟨hv, hp, hz, hk⟩, stp⟩ := hr T hT X
  have hv' : v = res.map (eC E.2.1) := by
    have := hv
    injection this
  subst hv'
  rw [h0] at hz hk
  obtain ⟨t2, a1, b1⟩ := kk T'.heap (locs ++ L) (by rw [e1]; exact hp) (fun q g1 g2 => by rw [e1]; exact hk q g1 g2) (by rw [e1]; exact hz)
    ⟨Nat.le_trans hS.1 (by rw [e1]; exact hz), fun q g1 g2 => by rw [e1, hk q (Nat.lt_of_lt_of_le g1 hS.1) (fun z => g2 (hA0 q z))]; exact hS.2.1 q g1 g2, fun q hq => by
      rcases List.mem_append.mp hq with h | h
      · exact hS.2.2 q h
      · exact hA0 _ (hL q h)⟩ T' rfl X'
  exact ⟨t2, stp t2 a1, b1⟩
end WC
def mX7_rowT : eM := (yX7_row, cX7_row, 2, (some .int), 6, 90)
/-- the class's row, where it throws -/
def rQX (E : eE) (w : eW) : String → State → State → Prop := vx_X (S := Unit) (fun _ => True) (fun X _ t => X = rX ∧ va_P E.1 vwCl (eWs E w) t.heap) (eA E)
set_option maxHeartbeats 1000000 in
theorem row_throws (E : eE) (l : Launch) (hA : eAd E) (hl : l.stackTraces = false) (w : eW) (y : Int) (sa : Nat) (hB : HB w) (hy : eI y) (hno : ¬ (0 < w 2 0 ∧ 0 ≤ y ∧ y < w 2 1)) :
    vx_Met l yX7_row (eWd mX7_rowT) (nR mX7_rowT 1 6) (va_Pc [.ref (E.2.1 0), .int (Int32.ofInt y)] (fun U => ePre E w U ∧ rZ E sa U)) (va_Qi (fun _ (_ : Unit) => False) (fun _ _ => True) (eA E)) (rQX E w) 1 6 (eA E) := by
  refine vx_ofW (cc := cX7_row) (maxL := 2) (ret := some .int) (ws' := eTb) (by decide +kernel) rfl ?_
  intro p e s m args below meth c s₁ B hml htab hv
  obtain ⟨rfl, ⟨hz, hP, hK, hO⟩, hZ⟩ := hv
  have hts := atoms_spec (ws := eWd mX7_rowT) B.pre
  have hts' : ∀ w ∈ eTb, w.before ([.ref (E.2.1 0), .int (Int32.ofInt y)] : List Value).toArray s = true := fun w h => hts w (List.mem_cons_of_mem _ h)
  have hown : s.vm.findClass "EaveRoofs" = some m.cls := findClass_of_methodNamed B.named
  have hx := B.exec
  have hb := B.bytes
  have hl0 := lv_entry ([.ref (E.2.1 0), .int (Int32.ofInt y)]) (n := 2) (Nat.le_of_ble_eq_true rfl)
  rw [lg_entry_eq]
  generalize (lg_sl ([.ref (E.2.1 0), .int (Int32.ofInt y)]) ++ List.replicate (2 - (lg_sl ([.ref (E.2.1 0), .int (Int32.ofInt y)])).length) Slot.unset).toArray = la at hl0 ⊢
  have hl0 : lv_has la 2 [(0, .ref (E.2.1 0)), (1, .int (Int32.ofInt y))] := hl0
  have hS : va_S (eA E) s.heap s.heap [] := va_S.rf
  refine lv_aload_n hx hb (eD DX7_row 0 rfl) rfl (lv_at hl0 0 rfl) ?_
  have hg := eWs_get E w (o := 0) (by decide)
  rw [eEn_obj (o := 0) (ci := 7) rfl (by decide)] at hg
  refine va_get (D := E.1) (cl := vwCl) (tys := eTy E) (ws := eWs E w) (ci := 7) (C := RX7) (T := TX7) (N := 12) (Ts := eTb) (ref := RX7) hx hb hts' (eInX 7 _ rfl) hown hK hP 0 hg rfl 5 (by decide) (v := .ref (E.2.1 2)) (hts' (.fieldLink "EaveRoofs" 29 "EaveRoofs" "house" "LEaveRoofs$House;") (eMem 2 10 rfl rfl)) (fun _ h => h) (eFs_get _ _ _ (by decide)) (eD DX7_row 1 rfl) ?_
  refine lv_iconst (v := Int32.ofInt 0) hx hb (eD DX7_row 2 rfl) rfl ?_
  refine lv_iload_n hx hb (eD DX7_row 3 rfl) rfl (lv_at hl0 1 rfl) ?_
  have hcal := y_b_X0_hasCell w 0 y (by decide) hy hB
  rw [if_neg (by omega)] at hcal
  refine w_call (E := E) (Mc := mX0_hasCell) (w := w) (A0 := eA E) (H0 := s.heap) (rest := []) (o := 2) (ci := 0) (na := 2) [(0, 0), (0, y)] ⟨hx, hb, hml, hown, hts'⟩ hA hK (fun U hU hW => ⟨by rw [hU]; exact hz, by rw [hU]; exact hP, va_K.moved hW.alike hK, hO.move hW hU hS⟩) hP hS (fun _ h => h) hl0.1 (eD DX7_row 4 rfl) ⟨eMem 3 90 rfl rfl, sX0_hasCell⟩ (by decide) (by decide) ⟨rfl, by decide, _, rfl, rfl⟩ rfl (by decide) (by decide) hcal (fun H1 locs1 hP1 hk1 hz1 hS1 => ?_)
  show W p l e _ s m _ below meth c H1 locs1 0 0 _ (F0 m 9 la [.int (Int32.ofInt 0)])
  refine lv_if_ne (tgt := 23) hx hb (eD DX7_row 5 rfl) rfl (fun q => absurd rfl q) (fun _ => ?_)
  have hat : ∀ w ∈ rAt.filter vx_no, w.before ([.ref (E.2.1 0), .int (Int32.ofInt y)] : List Value).toArray s = true := by
    intro w hw
    rcases rAt_in hw with h | h
    · exact hts' w h
    · have h9 := hZ.2.2.2 w h
      refine va_Nw.use ?_ h9
      revert h
      exact (show ∀ w ∈ rBad, w.onTables = true by decide +kernel) w
  refine rx_new (A := eA E) hx hb hl hown (hts' _ (eMem 4 203 rfl rfl)) (hts' _ (eMem 1 21 rfl rfl)) hZ.2.2.1 hat hZ.1 hZ.2.1 hS1 (hl0.1.trans hml.symm) (eD DX7_row 6 rfl) (eD DX7_row 7 rfl) (eD DX7_row 8 rfl) (eD DX7_row 9 rfl) (by decide) (by decide) (by decide) (by decide) (fun H2 ce f1 f2 f3 f4 f5 => ?_)
  refine vx_athrow hx hb (eD DX7_row 10 rfl) ?_
  have hP2 : va_P E.1 vwCl (eWs E w) H2 := hP1.kept (fun k q hk => f2 q.1 (hP1 k q hk).lt)
  refine vx_out (E := rX) (ce := ce) (fun x hx => (htab x hx).elim) B.notSynchronized f3 f4 f5 (fun t ht hvm => ⟨(), trivial, ⟨rfl, by rw [ht]; exact hP2⟩, ?_⟩) hS1.2.2 (by decide) (by decide)
  refine ⟨by rw [ht]; exact Nat.le_trans hS1.1 f1, fun q g1 g2 => ?_⟩
  rw [ht, f2 q (Nat.lt_of_lt_of_le g1 hS1.1)]
  exact hS1.2.1 q g1 g2
