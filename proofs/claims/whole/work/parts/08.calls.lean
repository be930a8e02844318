/-! THE RULES of calls -/
section RC
variable {M Mc : eM} {pc : Nat} {ls ls' : eL} {st rest : List eV} {w w1 w' : eW} {r res : Option eV}
theorem eTb_good {w : Cond} (h : w ∈ eTb) : w ∈ eTb ∧ ((w.onTables && w.keeps) = true ∨ ∃ ty, w = .arrayClass ty) := ⟨h, good_of_word (List.mem_filter.mp h).2⟩
theorem eWd_good (h : Cond.code Mc.1 Mc.2.1 Mc.2.2.1 Mc.2.2.2.1 ∈ eTb) : GoodIn eTb (eWd Mc) := by
  intro w hw
  rcases List.mem_cons.mp hw with rfl | hw
  · exact eTb_good h
  · exact eTb_good hw
theorem ePre_blind {E : eE} {av : List Value} : FrameBlind (va_Pc av (ePre E w)) := by
  intro a U g mk h
  obtain ⟨h1, h2, h3, h4, h5⟩ := h
  exact ⟨h1, h2, h3, va_K.moved (u := U) (U := U.calling g mk a) (Vm.Alike.refl U.vm) h4, eOld.move (s := U) (locs := []) h5 (State.WarmedH.refl U) rfl va_S.rf⟩
theorem ePre_at {E : eE} {p : Program} {s : State} {m : MethodId} {args : Array Value} {meth : Method} {c : Code} {H : Heap} {locs : List Loc} (X : eX E M p s m args meth c) (hP : va_P E.1 vwCl (eWs E w) H) (hS : va_S (eA E) s.heap H locs) (U : State) (hU : U.heap = H) (hW : s.WarmedH U.vm) : ePre E w U := by
  obtain ⟨hx, hb, hml, hr, hlk, hown, hts, hK, hO, hA, hz⟩ := X
  exact ⟨by rw [hU]; exact Nat.le_trans hz hS.1, by rw [hU]; exact hP, va_K.moved hW.alike hK, hO.move hW hU hS⟩
/-- behind a call -/
theorem e_back {E : eE} {p : Program} {l : Launch} {e : Env} {R : Room} {s : State} {m : MethodId} {args : Array Value} {below : List Frame} {meth : Method} {c : Code} {H : Heap} {locs : List Loc} {Q : State → Prop} {la : Array Slot} {st0 rst : List Value} {a : Array Value}
    (hr : va_Run p l e R s m args below meth c H locs 0 0 0 0 (F0 m pc la st0) rst (eQ E res w1 a) (eA E)) (hS : va_S (eA E) s.heap H locs)
    (kk : ∀ (H1 : Heap) (locs1 : List Loc), va_P E.1 vwCl (eWs E w1) H1 → va_S (eA E) s.heap H1 locs1 → W p l e R s m args below meth c H1 locs1 0 0 Q (F0 m (pc + 3) la ((res.map (eC E.2.1)).toList ++ rst))) : W p l e R s m args below meth c H locs 0 0 Q (F0 m pc la st0) := by
  intro T hT X
  obtain ⟨v, st₀, t, T', L, h0, X', hL, e1, e2, ⟨hv, hp, hz, hk⟩, stp⟩ := hr T hT X
  have hv' : v = res.map (eC E.2.1) := by
    have := hv
    injection this
  subst hv'
  rw [h0] at hz hk
  obtain ⟨t2, a1, b1⟩ := kk T'.heap (locs ++ L) (by rw [e1]; exact hp)
    ⟨Nat.le_trans hS.1 (by rw [e1]; exact hz), fun q h1 h2 => by rw [e1, hk q (Nat.lt_of_lt_of_le h1 hS.1) h2]; exact hS.2.1 q h1 h2, fun q hq => by
      rcases List.mem_append.mp hq with h | h
      · exact hS.2.2 q h
      · exact hL q h⟩ T' rfl X'
  exact ⟨t2, stp t2 a1, b1⟩
theorem eCat (ad : Nat → Nat) (l : List eV) : ((l.map (eC ad)).map fun v => v.category).sum = (l.map fun v => if v.1 = 1 then 2 else 1).sum := by
  rw [List.map_map]
  congr 1
  apply List.map_congr_left
  intro v _
  exact eC_cat ad v
theorem eStk (ad : Nat → Nat) (as rest : List eV) (v : eV) : ((as.reverse ++ v :: rest).map (eC ad)) = (as.map (eC ad)).reverse ++ eC ad v :: rest.map (eC ad) := by simp
theorem eRes (ad : Nat → Nat) (res : Option eV) (rest : List eV) : (res.toList ++ rest).map (eC ad) = (res.map (eC ad)).toList ++ rest.map (eC ad) := by cases res <;> simp
/-- invokevirtual on an object of ours -/
theorem go_callV {o idx ci n : Nat} (as : List eV) (hd : decode M.2.1 pc = .ok (.invokevirtual idx, 3)) (hl2 : eVl M.1.cls idx Mc n) (hfit : eFit M Mc) (ho : o < eN) (hc : (eKd o).1 = ci ∧ ci < 9 ∧ ∃ q, vwCl[ci]? = some q ∧ q.1 = Mc.1.cls) (hn : as.length = n) (hst : st = as.reverse ++ eR o :: rest) (hcat : (rest.map fun v => if v.1 = 1 then 2 else 1).sum ≤ 8)
    (hcal : Cal Mc (eR o :: as) w res w1) (kk : Go M (pc + 3) ls (res.toList ++ rest) w1 r w') : Go M pc ls st w r w' := by
  intro E p l e s m args below meth c H locs la X hP hS hl
  obtain ⟨hx, hb, hml, hr, hlk, hown, hts, hK, hO, hA, hz⟩ := id X
  obtain ⟨v1, v2, v3, v4, v5, v6, v7, v8⟩ := hl2
  obtain ⟨hco, hci, q, hq, hqc⟩ := hc
  subst hst
  have hg := eWs_get E w ho
  rw [eEn_obj hco hci] at hg
  have hrecv := va_recv hK hP hq hg
  rw [hqc] at hrecv
  rw [eStk]
  refine e_back (a := (Value.ref (E.2.1 o) :: as.map (eC E.2.1)).toArray) (va_runV (C := Mc.1.cls) (n := n) (b := E.2.1 o) (As := as.map (eC E.2.1)) (rest := rest.map (eC E.2.1)) (bytes := Mc.2.1) (maxL := Mc.2.2.1) (ret := Mc.2.2.2.1) ⟨hx, hb, hml, hown, hts⟩ (hcal E l hA) ⟨callB_of n hts (eWd_good v5) rfl rfl rfl (hts _ v4) (hts _ v1) ⟨v6, v7, v8⟩ hfit, hts _ v2, hts _ v3⟩ ⟨ePre_blind, hrecv, fun U hU hW => ⟨rfl, ePre_at X hP hS U hU hW⟩⟩ rfl (by rw [List.length_map]; exact hn) hl.1 rfl (lv_room (by rw [eCat]; exact hcat)) hd ⟨Nat.le_refl _, Nat.le_refl _⟩) hS (fun H1 locs1 hP1 hS1 => ?_)
  have h := kk E p l e s m args below meth c H1 locs1 la X hP1 hS1 hl
  rw [eRes] at h
  exact h
/-- invokevirtual on a text -/
theorem go_callT {o idx n : Nat} (as : List eV) (hd : decode M.2.1 pc = .ok (.invokevirtual idx, 3)) (hl2 : eVl M.1.cls idx Mc n) (hfit : eFit M Mc) (ho : 110 ≤ o ∧ o < 116) (hc : Mc.1.cls = "java/lang/String") (hn : as.length = n) (hst : st = as.reverse ++ eR o :: rest) (hcat : (rest.map fun v => if v.1 = 1 then 2 else 1).sum ≤ 8)
    (hcal : Cal Mc (eR o :: as) w res w1) (kk : Go M (pc + 3) ls (res.toList ++ rest) w1 r w') : Go M pc ls st w r w' := by
  intro E p l e s m args below meth c H locs la X hP hS hl
  obtain ⟨hx, hb, hml, hr, hlk, hown, hts, hK, hO, hA, hz⟩ := id X
  obtain ⟨v1, v2, v3, v4, v5, v6, v7, v8⟩ := hl2
  subst hst
  obtain ⟨j, rfl⟩ : ∃ j, o = 110 + j := ⟨o - 110, by omega⟩
  have hrecv : ∃ cell : Cell, H[E.2.1 (110 + j)]? = some cell ∧ cell.vm.isStatics = false ∧ s.vm.findClass Mc.1.cls = some cell.cls := by
    obtain ⟨cell, h1, h2, h3, -⟩ := (hO.2.2.2.2.2.1 j (by omega)).1.kept hS.2.1
    exact ⟨cell, h1, h2, by rw [hc]; exact h3⟩
  rw [eStk]
  refine e_back (a := (Value.ref (E.2.1 (110 + j)) :: as.map (eC E.2.1)).toArray) (va_runV (C := Mc.1.cls) (n := n) (b := E.2.1 (110 + j)) (As := as.map (eC E.2.1)) (rest := rest.map (eC E.2.1)) (bytes := Mc.2.1) (maxL := Mc.2.2.1) (ret := Mc.2.2.2.1) ⟨hx, hb, hml, hown, hts⟩ (hcal E l hA) ⟨callB_of n hts (eWd_good v5) rfl rfl rfl (hts _ v4) (hts _ v1) ⟨v6, v7, v8⟩ hfit, hts _ v2, hts _ v3⟩ ⟨ePre_blind, hrecv, fun U hU hW => ⟨rfl, ePre_at X hP hS U hU hW⟩⟩ rfl (by rw [List.length_map]; exact hn) hl.1 rfl (lv_room (by rw [eCat]; exact hcat)) hd ⟨Nat.le_refl _, Nat.le_refl _⟩) hS (fun H1 locs1 hP1 hS1 => ?_)
  have h := kk E p l e s m args below meth c H1 locs1 la X hP1 hS1 hl
  rw [eRes] at h
  exact h
/-- invokestatic -/
theorem go_callS {idx n : Nat} (as : List eV) (hd : decode M.2.1 pc = .ok (.invokestatic idx, 3)) (hl2 : eSl M.1.cls idx Mc n) (hfit : eFit M Mc) (hn : as.length = n) (hst : st = as.reverse ++ rest) (hcat : (rest.map fun v => if v.1 = 1 then 2 else 1).sum ≤ 8)
    (hcal : Cal Mc as w res w1) (kk : Go M (pc + 3) ls (res.toList ++ rest) w1 r w') : Go M pc ls st w r w' := by
  intro E p l e s m args below meth c H locs la X hP hS hl
  obtain ⟨hx, hb, hml, hr, hlk, hown, hts, hK, hO, hA, hz⟩ := id X
  obtain ⟨v1, v2, v4, v5, v6, v7, v8⟩ := hl2
  subst hst
  rw [List.map_append, List.map_reverse]
  refine e_back (a := (as.map (eC E.2.1)).toArray) (va_runS (n := n) (As := as.map (eC E.2.1)) (rest := rest.map (eC E.2.1)) (bytes := Mc.2.1) (maxL := Mc.2.2.1) (ret := Mc.2.2.2.1) ⟨hx, hb, hml, hown, hts⟩ (hcal E l hA) ⟨callB_of n hts (eWd_good v5) rfl rfl rfl (hts _ v4) (hts _ v1) ⟨v6, v7, v8⟩ hfit, hts _ v2⟩ ⟨ePre_blind, fun U hU hW => ⟨rfl, ePre_at X hP hS U hU hW⟩⟩ rfl (by rw [List.length_map]; exact hn) hl.1 rfl (lv_room (by rw [eCat]; exact hcat)) hd ⟨Nat.le_refl _, Nat.le_refl _⟩) hS (fun H1 locs1 hP1 hS1 => ?_)
  have h := kk E p l e s m args below meth c H1 locs1 la X hP1 hS1 hl
  rw [eRes] at h
  exact h
/-- a stretch of a row copied -/
def eCpy (w : eW) (a b : Nat) (sp dp n : Int) : eW := fun k => if k = b then (fun j => if dp ≤ j ∧ j < dp + n then w a (sp + (j - dp)) else w b j) else w k
theorem go_copy {a b na nb idx : Nat} {sp dp n : Int} (hd : decode M.2.1 pc = .ok (.invokestatic idx, 3)) (hw : Cond.methodLink M.1.cls idx arraycopyName ∈ eTb) (hfr : 1 ≤ M.2.2.2.2.1 ∧ (rest.map fun v => if v.1 = 1 then 2 else 1).sum + 18 ≤ M.2.2.2.2.2) (ha : a < eN) (hb0 : b < eN) (hka : eKd a = (10, na)) (hkb : eKd b = (10, nb)) (h1 : 0 ≤ sp) (h2 : 0 ≤ dp) (h3 : 0 ≤ n) (h4 : sp + n ≤ na) (h5 : dp + n ≤ nb)
    (kk : Go M (pc + 3) ls rest (eCpy w a b sp dp n) r w') : Go M pc ls ((0, n) :: (0, dp) :: eR b :: (0, sp) :: eR a :: rest) w r w' := by
  intro E p l e s m args below meth c H locs la X hP hS hl
  obtain ⟨hx, hb, hml, hr, hlk, hown, hts, hK, hO, hA, hz⟩ := id X
  have hna := eNsmall hka
  have hnb := eNsmall hkb
  have hga := eWs_get E w ha
  rw [eEn_ints hka] at hga
  have hgb := eWs_get E w hb0
  rw [eEn_ints hkb] at hgb
  have e1 : (Int32.ofInt sp).toNatClampNeg = sp.toNat := e_clamp h1 ⟨by omega, by omega⟩
  have e2 : (Int32.ofInt dp).toNatClampNeg = dp.toNat := e_clamp h2 ⟨by omega, by omega⟩
  have e3 : (Int32.ofInt n).toNatClampNeg = n.toNat := e_clamp h3 ⟨by omega, by omega⟩
  have neg : ∀ z : Int, 0 ≤ z → z < 2147483648 → ¬ Int32.ofInt z < 0 := fun z g1 g2 q => by
    rw [show (0 : Int32) = Int32.ofInt 0 from rfl, e_lt ⟨by omega, by omega⟩ (by decide)] at q
    omega
  refine va_copyi (ws := eWs E w) (A := eA E) (ty := .int) hx hb (hml.trans hl.1.symm) hown (hts _ hw) (hts _ (eMem 2 206 rfl rfl)) (hts _ (eMem 2 205 rfl rfl)) (hts (.initialized "java/lang/System") (eMem 1 16 rfl rfl)) hK hP (eWs_D hA w) hS a b 1 1 hga hgb rfl rfl rfl (neg sp h1 (by omega)) (neg dp h2 (by omega)) (neg n h3 (by omega)) (by rw [e1, e3]; omega) (by rw [e2, e3]; omega) (fun _ _ => rfl) hfr.1 (by rw [eCat]; exact hfr.2) hd (fun H1 locs1 hP1 hD1 hS1 => ?_)
  rw [eWs_set (w' := eCpy w a b sp dp n) hb0 (fun j hj => by simp [eCpy, hj]) (by
    rw [eEn_ints hkb]
    congr 4
    funext j
    rw [e1, e2, e3]
    unfold va_cpy eCpy
    simp only [if_true]
    by_cases hj : dp.toNat ≤ j ∧ j < dp.toNat + n.toNat
    · have : dp ≤ (j : Int) ∧ (j : Int) < dp + n := by omega
      rw [if_pos hj, if_pos this]
      congr 2
      omega
    · have : ¬ (dp ≤ (j : Int) ∧ (j : Int) < dp + n) := by omega
      rw [if_neg hj, if_neg this])] at hP1
  exact kk E p l e s m args below meth c H1 locs1 la X hP1 hS1 hl
end RC
