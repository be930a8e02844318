/-! the law, from its entry -/
theorem w_ctor {D : va_G} {cB cI : ClassId} {Mc : eM} {p : Program} {l : Launch} {e : Env} {R : Room} {s : State} {m : MethodId} {args : Array Value} {below : List Frame} {meth : Method} {c : Code} {H : Heap} {locs : List Loc} {Q : State → Prop} {la : Array Slot} {pc k n nL : Nat} {cc : ByteArray} {own : String} {A : Nat → Prop} {ws wr : va_W} {idx b kc nc ci na : Nat} {fs0 rest : List Value} {Fc : Nat → (Nat → Nat) → va_W} (As : List Value) (k2 n2 : Nat) (isC isR : List Nat)
    (S : CallFix p m c cc nL s args eTb own) (hK : va_K D vwCl (nTy cB cI) s) (hA : ∀ q, s.heap.size ≤ q → A q) (hN : nNest s) (hP : va_P D vwCl ws H) (hD : va_D A ws) (hS : va_S A s.heap H locs) (hsz : la.size = nL)
    (hd : decode cc pc = .ok (.invokespecial idx, 3)) (hct : CtN D cB cI Mc kc nc ci fs0 As Fc) (hl : Cond.methodLink own idx Mc.1 ∈ eTb) (w2 : Cond.initialized Mc.1.cls ∈ eTb) (w3 : Cond.instanceMethod Mc.1 ∈ eTb) (w4 : Cond.code Mc.1 Mc.2.1 Mc.2.2.1 Mc.2.2.2.1 ∈ eTb) (hi : Mc.1.name = "<init>") (hret : Mc.2.2.2.1 = none)
    (hdd : Mc.1.cls ≠ "java/lang/invoke/MethodHandle" ∧ Mc.1.cls ≠ "java/lang/invoke/VarHandle" ∧ (parseMethodDescriptor Mc.1.desc).map (fun d => d.parameters.length) = some na) (hR : Mc.2.2.2.2.1 + 1 ≤ R.frames ∧ 8 + (Mc.2.2.1 + 11) + Mc.2.2.2.2.2 ≤ R.locals) (hna : As.length = na) (hcat : (rest.map fun v => v.category).sum ≤ 8)
    (hC : isC.map (fun i => ws[i]?) = [((b, .inr (ci, fs0)) : Nat × va_E)].map some) (hRr : isR.map (fun i => ws[i]?) = wr.map some) (hnd : va_nd isC = true) (hnr : va_nd isR = true) (hdis : ∀ i ∈ isR, i ∉ isC) (hk : k + kc = k2) (hn : n + nc = n2) (h1 : k2 ≤ R.cells) (h2 : n2 ≤ R.slots)
    (g : ∀ (u : Nat → Nat) (H1 : Heap) (locs1 : List Loc), va_P D vwCl (wr ++ Fc b u) H1 → va_D A (wr ++ Fc b u) → va_S A s.heap H1 locs1 → W p l e R s m args below meth c H1 locs1 k2 n2 Q (F0 m (pc + 3) la rest)) : W p l e R s m args below meth c H locs k n Q (F0 m pc la (As.reverse ++ .ref b :: rest)) := by
  have hts := S.2.2.2.2
  subst hk
  subst hn
  have hPc : va_P D vwCl [(b, .inr (ci, fs0))] H := hP.sub isC (by
    have : isC.filterMap (fun i => ws[i]?) = ((isC.map (fun i => ws[i]?)).filterMap id) := by rw [List.filterMap_map]; rfl
    rw [this, hC]; rfl)
  have hDc : va_D A [(b, .inr (ci, fs0))] := hD.sub isC hnd hC
  have hFc := va_free (wc := [(b, .inr (ci, fs0))]) hD hS hA isC hC
  have hpre : PreS s H (va_Pc (.ref b :: As) (fun U => U.heap.size = H.size ∧ va_P D vwCl [(b, .inr (ci, fs0))] U.heap ∧ va_K D vwCl (nTy cB cI) U ∧ va_D (fun _ => True) [(b, .inr (ci, fs0))] ∧ nNest U)) (.ref b :: As) :=
    ⟨fun a U g mk q => by
      obtain ⟨q0, q1, qP, qK, qD, qN⟩ := q
      exact ⟨q0, q1, qP, va_K.moved (u := U) (U := U.calling g mk a) (Vm.Alike.refl U.vm) qK, qD, fun a i x h z => va_Nw.same rfl rfl (qN a i x h z)⟩,
     fun U hU hW => ⟨rfl, by rw [hU], by rw [hU]; exact hPc, va_K.moved hW.alike hK, hDc.weaken (fun _ _ _ _ => trivial), hN.warm hW⟩⟩
  have hwd : eWd Mc = Cond.code Mc.1 Mc.2.1 Mc.2.2.1 none :: eTb := by unfold eWd; rw [hret]
  have hrun : va_Run p l e R s m args below meth c H locs k n kc nc (F0 m pc la (As.reverse ++ .ref b :: rest)) rest (nQ D (Fc b) (va_A [(b, .inr (ci, fs0))] H.size) (Value.ref b :: As).toArray) (va_A [(b, .inr (ci, fs0))] H.size) :=
    va_runI S (hct l b H.size) (cwI (bytes := Mc.2.1) (maxL := Mc.2.2.1) na hts (eWd_good w4) hwd rfl rfl (hts _ w2) (hts _ hl) (hts _ w3) hi hdd hR) hpre rfl hna hsz rfl (lv_room hcat) hd ⟨h1, h2⟩
  refine va_callv hrun hS (fun q _ h => hFc q h) hFc (fun u t H1 locs1 ht hvm _ hB hz1 hk1 hS1 => ?_)
  obtain ⟨hP1, hD1⟩ := hB
  rw [ht] at hP1
  obtain ⟨hP2, hD2⟩ := va_join (wr := wr) (w1 := Fc b u) (wc := [(b, .inr (ci, fs0))]) hP hD isC isR hC hRr hnr hdis hk1 hFc hP1 hD1
  exact g u H1 locs1 hP2 hD2 hS1
/-- where things are -/
def aD (b q2 t q0 q1 : Nat) (u1 u2 aK aV : Nat → Nat) : Nat → Nat := fun k => if k = 98 then b else if k = 99 then q2 else if k = 100 then t else if 120 ≤ k then aV (k - 120) else if 110 ≤ k then aK (k - 110) else ([q0, u1 0, u1 1, u1 2, u1 3, u1 4, u1 5, u1 6, u1 7, u1 8, u1 9, u1 10, u1 11, u1 12, u1 13, u1 14, u1 15, u1 16, u1 17, u1 18, u1 19, u1 20, u1 21, u1 22, u1 23, u1 24, u1 25, u1 26, u1 27, u1 28, u1 29, u1 30, u1 31, q1, u2 0, u2 1, u2 2, u2 3, u2 4, u2 5, u2 6, u2 7, u2 8, u2 9, u2 10, u2 11, u2 12, u2 13, u2 14, u2 15, u2 16, u2 17, u2 18, u2 19, u2 20, u2 21, u2 22, u2 23, u2 24, u2 25, u2 26] : List Nat).getD k 0
set_option maxHeartbeats 4000000 in
set_option maxRecDepth 100000 in
theorem w0_is (D : va_G) (cB cI : ClassId) (b q2 t q0 q1 z : Nat) (u1 u2 aK aV : Nat → Nat) : FX7_init cB cI q0 u1 ++ FX8_init cB cI q1 u2 = eWs (D, aD b q2 t q0 q1 u1 u2 aK aV, cB, cI, z) w0 := by
  rfl
theorem aD_v (b q2 t q0 q1 : Nat) (u1 u2 aK aV : Nat → Nat) : aD b q2 t q0 q1 u1 u2 aK aV 98 = b ∧ aD b q2 t q0 q1 u1 u2 aK aV 99 = q2 ∧ aD b q2 t q0 q1 u1 u2 aK aV 100 = t ∧ (∀ i, i < 6 → aD b q2 t q0 q1 u1 u2 aK aV (110 + i) = aK i) ∧ ∀ i, i < 6 → aD b q2 t q0 q1 u1 u2 aK aV (120 + i) = aV i := by
  refine ⟨rfl, rfl, rfl, fun i hi => ?_, fun i hi => ?_⟩
  · unfold aD
    rw [if_neg (by omega), if_neg (by omega), if_neg (by omega), if_neg (by omega), if_pos (by omega), show 110 + i - 110 = i by omega]
  · unfold aD
    rw [if_neg (by omega), if_neg (by omega), if_neg (by omega), if_pos (by omega), show 120 + i - 120 = i by omega]
set_option maxHeartbeats 4000000 in
set_option maxRecDepth 100000 in
/-- from the entry, for every script of at most 3072 ints, the law comes to its end with true -/
theorem whole_start {p : Program} {e : Env} {s : State} {m : MethodId} {below : List Frame} {meth : Method} {c : Code} (l : Launch) (hflags : l.flags = flags0) {b L : Nat} {xs : Nat → Int32} (hL : L ≤ 3072) (C0 : lw_At p s m meth c b L xs) : W p l e room_1 s m #[Value.ref b] below meth c s.heap [] 0 0 (lw_Z below #[Value.ref b] s) (entryFrame m ([Value.ref b] : List Value).toArray 7) := by
  obtain ⟨hx, hb, hr, hml, hown, hts, hX, hbl, hlocks, hgv⟩ := id C0
  have hE : ∀ w ∈ eTb, w.before #[Value.ref b] s = true := fun w h => hts w (List.mem_filter.mp h).1
  have hfl : l.stackTraces = false := by unfold Launch.stackTraces; rw [hflags]; decide +kernel
  have hA : ∀ q : Nat, s.heap.size ≤ q → (fun q : Nat => s.heap.size ≤ q) q := fun _ h => h
  have hN : nNest s := fun a i x h g => va_Nw.of rfl (hts _ g)
  obtain ⟨t, sa, aK, aV, o1, o2, o3, o4, o5, o6, o7, o8, o9⟩ := st_old hgv hts
  obtain ⟨cB, kB1, kB2⟩ := arr_known (ty := .byte) (hE _ (eMem 1 69 rfl rfl))
  obtain ⟨cI, kI1, kI2⟩ := arr_known (ty := .int) (hE _ (eMem 1 70 rfl rfl))
  obtain ⟨c0, i0, h0⟩ := u_known (C := RX0) (T := TX0) (N := 6) (n := 6) hE (eInX 0 _ rfl) (hE _ (eMem 1 31 rfl rfl))
  obtain ⟨c1, i1, h1⟩ := u_known (C := RX1) (T := TX1) (N := 2) (n := 2) hE (eInX 1 _ rfl) (hE _ (eMem 1 72 rfl rfl))
  obtain ⟨c2, i2, h2⟩ := u_known (C := RX2) (T := TX2) (N := 2) (n := 2) hE (eInX 2 _ rfl) (hE _ (eMem 1 198 rfl rfl))
  obtain ⟨c3, i3, h3⟩ := u_known (C := RX3) (T := TX3) (N := 9) (n := 9) hE (eInX 3 _ rfl) (hE _ (eMem 1 86 rfl rfl))
  obtain ⟨c4, i4, h4⟩ := u_known (C := RX4) (T := TX4) (N := 10) (n := 10) hE (eInX 4 _ rfl) (hE _ (eMem 1 192 rfl rfl))
  obtain ⟨c5, i5, h5⟩ := u_known (C := RX5) (T := TX5) (N := 12) (n := 12) hE (eInX 5 _ rfl) (hE _ (eMem 1 149 rfl rfl))
  obtain ⟨c6, i6, h6⟩ := u_known (C := RX6) (T := TX6) (N := 5) (n := 5) hE (eInX 6 _ rfl) (hE _ (eMem 1 125 rfl rfl))
  obtain ⟨c7, i7, h7⟩ := u_known (C := RX7) (T := TX7) (N := 12) (n := 12) hE (eInX 7 _ rfl) (hE _ (eMem 1 23 rfl rfl))
  obtain ⟨c8, i8, h8⟩ := u_known (C := RX8) (T := TX8) (N := 58) (n := 58) hE (eInX 8 _ rfl) (hE _ (eMem 5 30 rfl rfl))
  obtain ⟨D, hKc⟩ : ∃ D : va_G, ∀ (k : Nat) (q : vw_C), vwCl[k]? = some q → u_Kn s q.1 q.2.1 q.2.2 (D.1 k) (D.2 k) := by
    refine ⟨(fun k => [c0, c1, c2, c3, c4, c5, c6, c7, c8].getD k c0, fun k => [i0, i1, i2, i3, i4, i5, i6, i7, i8].getD k i0), fun k q hq => ?_⟩
    match k, hq with
    | 0, hq => cases hq; exact h0
    | 1, hq => cases hq; exact h1
    | 2, hq => cases hq; exact h2
    | 3, hq => cases hq; exact h3
    | 4, hq => cases hq; exact h4
    | 5, hq => cases hq; exact h5
    | 6, hq => cases hq; exact h6
    | 7, hq => cases hq; exact h7
    | 8, hq => cases hq; exact h8
    | k + 9, hq => simp [vwCl] at hq
  have hK : va_K D vwCl (nTy cB cI) s := ⟨hKc, fun k q h => by
    match k, h with
    | 0, h => cases h; exact ⟨kB1, kB2⟩
    | 1, h => cases h; exact ⟨kI1, kI2⟩
    | k + 2, h => simp at h⟩
  have hS : va_S (fun q : Nat => s.heap.size ≤ q) s.heap s.heap [] := va_S.rf
  have hP : va_P D vwCl [] s.heap := fun k q h => by simp at h
  have hD : va_D (fun q : Nat => s.heap.size ≤ q) [] := ⟨fun i j p q h => by simp at h, fun k q h => by simp at h⟩
  have hl := lv_entry ([.ref b]) (n := 7) (Nat.le_of_ble_eq_true rfl)
  rw [lg_entry_eq]
  generalize (lg_sl ([.ref b]) ++ List.replicate (7 - (lg_sl ([.ref b])).length) Slot.unset).toArray = la at hl ⊢
  have hl : lv_has la 7 [(0, .ref b)] := hl
  refine va_new (ci := 7) (fs := [.null, .int 0, .int 0, .int 0, .int 0, .null, .null, .null, .null, .null, .null, .null]) (C := RX7) (T := TX7) (N := 12) (Ts := eTb) hx hb hE (eInX 7 _ rfl) tyX7 tyX7_ok hown (hE (.classLink "EaveRoofsLaw" 8 "EaveRoofs") (eMem 1 22 rfl rfl)) (hE _ (eMem 1 23 rfl rfl)) (hE _ (eMem 1 1 rfl rfl)) hK hP hD hS hA rfl iX7 (Nat.le_of_ble_eq_true rfl) (Nat.le_of_ble_eq_true rfl) (eD DL0 0 rfl) (fun q0 H1 hP1 hD1 hS1 => ?_)
  refine lv_dup hx hb (eD DL0 1 rfl) rfl ?_
  refine w_ctor (D := D) (cB := cB) (cI := cI) (Mc := mX7_init) (na := 0) (wr := []) (ws := [(q0, .inr (7, [.null, .int 0, .int 0, .int 0, .int 0, .null, .null, .null, .null, .null, .null, .null]))]) (b := q0) (rest := [.ref q0]) [] 33 5751 [0] [] ⟨hx, hb, hml, hown, hE⟩ hK hA hN hP1 hD1 hS1 hl.1 (eD DL0 2 rfl) (nX7_init D cB cI) (eMem 1 24 rfl rfl) (eMem 1 1 rfl rfl) (eMem 1 25 rfl rfl) (eMem 1 26 rfl rfl) rfl rfl (by decide +kernel) (by decide) rfl (Nat.le_of_ble_eq_true rfl) rfl rfl rfl rfl (by decide) rfl rfl (Nat.le_of_ble_eq_true rfl) (Nat.le_of_ble_eq_true rfl) (fun u1 H2 locs2 hP2 hD2 hS2 => ?_)
  refine lv_astore_n (lv' := [(1, .ref q0), (0, .ref b)]) hx hb (eD DL0 3 rfl) rfl hl (by decide) rfl (fun la hl => ?_)
  refine va_new (ci := 8) (fs := [.int 0, .int 0, .int 0, .null, .int 0, .int 0, .int 0, .int 0, .int 0, .int 0, .int 0, .int 0, .int 0, .long 0, .null, .null, .null, .int 0, .int 0, .int 0, .int 0, .null, .null, .null, .int 0, .int 0, .int 0, .int 0, .int 0, .null, .null, .null, .null, .int 0, .null, .null, .null, .null, .null, .null, .null, .null, .int 0, .int 0, .int 0, .null, .int 0, .int 0, .null, .null, .null, .null, .null, .null, .null, .int 0, .long 0, .long 0]) (C := RX8) (T := TX8) (N := 58) (Ts := eTb) hx hb hE (eInX 8 _ rfl) tyX8 tyX8_ok hown (hE (.classLink "EaveRoofsLaw" 16 "EaveRoofsModel") (eMem 5 29 rfl rfl)) (hE _ (eMem 5 30 rfl rfl)) (hE _ (eMem 1 9 rfl rfl)) hK hP2 hD2 hS2 hA rfl iX8 (Nat.le_of_ble_eq_true rfl) (Nat.le_of_ble_eq_true rfl) (eD DL0 4 rfl) (fun q1 H3 hP3 hD3 hS3 => ?_)
  refine lv_dup hx hb (eD DL0 5 rfl) rfl ?_
  refine w_ctor (D := D) (cB := cB) (cI := cI) (Mc := mX8_init) (na := 0) (wr := FX7_init cB cI q0 u1) (ws := FX7_init cB cI q0 u1 ++ [(q1, .inr (8, [.int 0, .int 0, .int 0, .null, .int 0, .int 0, .int 0, .int 0, .int 0, .int 0, .int 0, .int 0, .int 0, .long 0, .null, .null, .null, .int 0, .int 0, .int 0, .int 0, .null, .null, .null, .int 0, .int 0, .int 0, .int 0, .int 0, .null, .null, .null, .null, .int 0, .null, .null, .null, .null, .null, .null, .null, .null, .int 0, .int 0, .int 0, .null, .int 0, .int 0, .null, .null, .null, .null, .null, .null, .null, .int 0, .long 0, .long 0]))]) (b := q1) (rest := [.ref q1]) [] 61 15049 [33] [0, 1, 2, 3, 4, 5, 6, 7, 8, 9, 10, 11, 12, 13, 14, 15, 16, 17, 18, 19, 20, 21, 22, 23, 24, 25, 26, 27, 28, 29, 30, 31, 32] ⟨hx, hb, hml, hown, hE⟩ hK hA hN hP3 hD3 hS3 hl.1 (eD DL0 6 rfl) (nX8_init D cB cI) (eMem 5 31 rfl rfl) (eMem 1 9 rfl rfl) (eMem 5 32 rfl rfl) (eMem 5 33 rfl rfl) rfl rfl (by decide +kernel) (by decide) rfl (Nat.le_of_ble_eq_true rfl) rfl rfl rfl rfl (by decide) rfl rfl (Nat.le_of_ble_eq_true rfl) (Nat.le_of_ble_eq_true rfl) (fun u2 H4 locs4 hP4 hD4 hS4 => ?_)
  refine lv_astore_n (lv' := [(2, .ref q1), (1, .ref q0), (0, .ref b)]) hx hb (eD DL0 7 rfl) rfl hl (by decide) rfl (fun la hl => ?_)
  refine lv_iconst (v := 1) hx hb (eD DL0 8 rfl) (by decide) ?_
  refine va_newa (atype := .long) (ty := .long) (a0 := (1, .inr (.inl (fun _ : Nat => (0 : Int64))))) (N' := 1) hx hb (hE (.arrayClass .long) (eMem 7 78 rfl rfl)) rfl hK hP4 hD4 hS4 hA (fun cA => rfl) (by decide) (by decide) (by decide) (Nat.le_of_ble_eq_true rfl) (Nat.le_of_ble_eq_true rfl) (eD DL0 9 rfl) (fun q2 cL H5 hK5 hP5 hD5 hS5 => ?_)
  refine lv_astore_n (lv' := [(3, .ref q2), (2, .ref q1), (1, .ref q0), (0, .ref b)]) hx hb (eD DL0 10 rfl) rfl hl (by decide) rfl (fun la hl => ?_)
  refine lv_iconst (v := Int32.ofInt 0) hx hb (eD DL0 11 rfl) rfl ?_
  refine lv_istore (lv' := [(4, .int (Int32.ofInt 0)), (3, .ref q2), (2, .ref q1), (1, .ref q0), (0, .ref b)]) hx hb (eD DL0 12 rfl) hl (by decide) rfl (fun la hl => ?_)
  have hw0 := w0_is D cB cI b q2 t q0 q1 s.heap.size u1 u2 aK aV
  obtain ⟨e98, e99, e100, eK, eV⟩ := aD_v b q2 t q0 q1 u1 u2 aK aV
  generalize hEe : ((D, aD b q2 t q0 q1 u1 u2 aK aV, cB, cI, s.heap.size) : eE) = E at hw0
  have f1 : E.1 = D := by rw [← hEe]
  have f2 : E.2.1 = aD b q2 t q0 q1 u1 u2 aK aV := by rw [← hEe]
  have f3 : E.2.2.1 = cB ∧ E.2.2.2.1 = cI ∧ E.2.2.2.2 = s.heap.size := by rw [← hEe]; exact ⟨rfl, rfl, rfl⟩
  have g0 : E.2.1 0 = q0 ∧ E.2.1 33 = q1 ∧ E.2.1 98 = b ∧ E.2.1 99 = q2 := by rw [f2]; exact ⟨rfl, rfl, rfl, rfl⟩
  have ho : (q2, .inl (cL, 1, .inr (.inl (fun _ : Nat => (0 : Int64))))) = oW E cL (fun _ => 0) := by unfold oW; rw [g0.2.2.2]
  rw [hw0, ho] at hP5 hD5
  have hAe : ∀ q, eA E q → (fun q : Nat => s.heap.size ≤ q) q := fun q h => by
    have := h.1
    rw [f3.2.2] at this
    exact this
  have hge : ∀ {i : Nat}, i < eN → (eWs E w0 ++ [oW E cL (fun _ => 0)])[i]? = some (E.2.1 i, eEn E i (w0 i)) := fun {i} hi => by
    rw [List.getElem?_append_left (by rw [eWs_len]; exact hi)]
    exact eWs_get E w0 hi
  have hgo : (eWs E w0 ++ [oW E cL (fun _ => 0)])[61]? = some (oW E cL (fun _ => 0)) := by
    rw [List.getElem?_append_right (by rw [eWs_len]; decide), eWs_len]
    rfl
  have hAd : eAd E := by
    refine ⟨fun i j hi hj h => hD5.1 i j _ _ (hge hi) (hge hj) h, fun i hi => ⟨?_, fun h => ?_⟩⟩
    · rw [f3.2.2]; exact hD5.2 i _ (hge hi)
    · have := hD5.1 i 61 _ _ (hge hi) hgo h
      have hi' : i < 61 := hi
      omega
  have hold : eOld E s := by
    refine ⟨?_, ?_, o3.narrow hAe, o4.narrow hAe, ?_, ?_, fun a i b n d h g => va_Nw.of rfl (hts _ g)⟩
    · rw [f2, e100]; exact o1.narrow hAe
    · rw [f2, e100]; exact o2.narrow hAe
    · intro q hq
      have := o5 q hq
      rw [f2]
      revert this
      revert q
      unfold eSr
      simp only [List.forall_mem_cons, List.not_mem_nil, false_implies, implies_true, and_true]
      exact ⟨id, id, id, id, id, id⟩
    · intro i hi
      obtain ⟨y1, y2, y3, y4⟩ := o6 i hi
      rw [f2, eK i hi, eV i hi]
      exact ⟨y1.narrow hAe, y2.narrow hAe, y3.narrow hAe, y4.narrow hAe⟩
  have hZ : rZ E sa s := ⟨o7.narrow hAe, o8.narrow hAe, o9, by
    unfold rBad
    exact List.forall_mem_cons.mpr ⟨va_Nw.of rfl (hts _ (eMem0 4 207 rfl)), List.forall_mem_cons.mpr ⟨va_Nw.of rfl (hts _ (eMem0 4 209 rfl)), List.forall_mem_cons.mpr ⟨va_Nw.of rfl (hts _ (eMem0 4 211 rfl)), List.forall_mem_cons.mpr ⟨va_Nw.of rfl (hts _ (eMem0 4 205 rfl)), fun _ h => absurd h List.not_mem_nil⟩⟩⟩⟩⟩
  have hXl : lX E cL sa l p s m meth c L xs := by
    refine ⟨by rw [g0.2.2.1]; exact C0, hL, ?_, ?_, hold, hAd, f3.2.2, ?_, hfl, hZ, by rw [g0.2.2.1]; exact hE⟩
    · rw [f1]; unfold eTy; rw [f3.1, f3.2.1]; exact hK
    · rw [f1]; exact hK5.sub [2] rfl
    · have := hD5.2 61 _ hgo
      rw [f3.2.2]; exact this
  have hPw : va_P E.1 vwCl (eWs E w0) H5 := by
    rw [f1]
    exact fun k q hk => hP5 k q (by rw [List.getElem?_append_left (List.getElem?_eq_some_iff.mp hk).1]; exact hk)
  have hPo : oP E cL (fun _ => 0) H5 := by
    unfold oP
    rw [f1]
    intro k q hk
    have hz : k < 1 := (List.getElem?_eq_some_iff.mp hk).1
    refine hP5 (61 + k) q ?_
    rw [List.getElem?_append_right (by rw [eWs_len]; exact Nat.le_add_right 61 k), eWs_len, show 61 + k - eN = k by show 61 + k - 61 = k; omega]
    exact hk
  have hSl : va_S (lA E) s.heap H5 locs4 := by
    have : lA E = fun q : Nat => s.heap.size ≤ q := by unfold lA; rw [f3.2.2]
    rw [this]; exact hS5
  have hls : lv_has la 7 ((lB (6 * 0)).map fun q => (q.1, eC E.2.1 q.2)) := by
    refine ⟨hl.1, hl.2.1, fun q hq => hl.2.2 q ?_⟩
    simp only [lB, List.map_cons, List.map_nil, List.mem_cons, List.not_mem_nil, or_false] at hq ⊢
    rcases hq with rfl | rfl | rfl | rfl | rfl
    · exact Or.inr (Or.inr (Or.inr (Or.inr (by show (0, Value.ref (E.2.1 98)) = _; rw [g0.2.2.1]))))
    · exact Or.inr (Or.inr (Or.inr (Or.inl (by show (1, Value.ref (E.2.1 0)) = _; rw [g0.1]))))
    · exact Or.inr (Or.inr (Or.inl (by show (2, Value.ref (E.2.1 33)) = _; rw [g0.2.1])))
    · exact Or.inr (Or.inl (by show (3, Value.ref (E.2.1 99)) = _; rw [g0.2.2.2]))
    · exact Or.inl rfl
  have hfin := law_loop (below := below) (e := e) hXl (L + 1) 0 w0 (fun _ => 0) (by omega) (Nat.zero_le _) IV_w0 H5 locs4 la hPw hPo hSl hls
  rw [g0.2.2.1] at hfin
  exact hfin
