/-! THE RULES that touch the heap, calls and ends -/
section RH
variable {M : eM} {pc : Nat} {ls ls' : eL} {st : List eV} {w w' : eW} {r : Option eV}
theorem eInX : ∀ (ci : Nat) (q : vw_C), vwCl[ci]? = some q → ∀ w ∈ u_ws q.1 q.2.1 q.2.2, w ∈ eTb := by
  intro ci q h
  match ci, h with
  | 0, h => cases h; exact eInX0
  | 1, h => cases h; exact eInX1
  | 2, h => cases h; exact eInX2
  | 3, h => cases h; exact eInX3
  | 4, h => cases h; exact eInX4
  | 5, h => cases h; exact eInX5
  | 6, h => cases h; exact eInX6
  | 7, h => cases h; exact eInX7
  | 8, h => cases h; exact eInX8
  | k + 9, h => simp [vwCl] at h
theorem eTyX : ∀ (ci : Nat) (q : vw_C), vwCl[ci]? = some q → ∃ ty0 : Nat → FieldType, (∀ k, k < q.2.2 → parseFieldDescriptor (q.2.1 k).2.2.1 = some (ty0 k)) ∧ ∀ k, k < q.2.2 → (eTg ci k = 0 → ty0 k = .int ∨ ty0 k = .boolean) ∧ (eTg ci k = 1 → ty0 k = .long) := by
  intro ci q h
  match ci, h with
  | 0, h => cases h; exact ⟨tyX0, tyX0_ok, by decide⟩
  | 1, h => cases h; exact ⟨tyX1, tyX1_ok, by decide⟩
  | 2, h => cases h; exact ⟨tyX2, tyX2_ok, by decide⟩
  | 3, h => cases h; exact ⟨tyX3, tyX3_ok, by decide⟩
  | 4, h => cases h; exact ⟨tyX4, tyX4_ok, by decide⟩
  | 5, h => cases h; exact ⟨tyX5, tyX5_ok, by decide⟩
  | 6, h => cases h; exact ⟨tyX6, tyX6_ok, by decide⟩
  | 7, h => cases h; exact ⟨tyX7, tyX7_ok, by decide⟩
  | 8, h => cases h; exact ⟨tyX8, tyX8_ok, by decide +kernel⟩
  | k + 9, h => simp [vwCl] at h
theorem eNmX : ∀ (ci : Nat) (q : vw_C), vwCl[ci]? = some q → ∀ a, a < q.2.2 → ∀ b, b < q.2.2 → a ≠ b → (q.2.1 a).2.1 ≠ (q.2.1 b).2.1 := by
  intro ci q h
  match ci, h with
  | 0, h => cases h; exact nmX0
  | 1, h => cases h; exact nmX1
  | 2, h => cases h; exact nmX2
  | 3, h => cases h; exact nmX3
  | 4, h => cases h; exact nmX4
  | 5, h => cases h; exact nmX5
  | 6, h => cases h; exact nmX6
  | 7, h => cases h; exact nmX7
  | 8, h => cases h; exact nmX8
  | k + 9, h => simp [vwCl] at h
/-- getfield: what the field holds -/
theorem go_getV {o idx ci k : Nat} (hd : decode M.2.1 pc = .ok (.getfield idx, 3)) (hf : eFl M.1.cls idx ci k) (ho : o < eN) (hc : (eKd o).1 = ci) (kk : Go M (pc + 3) ls (eFv o (w o) ci k :: st) w r w') : Go M pc ls (eR o :: st) w r w' := by
  intro E p l e s m args below meth c H locs la X hP hS hl
  obtain ⟨hx, hb, hml, hr, hlk, hown, hts, hK, hO, hA, hz⟩ := id X
  obtain ⟨⟨C, T, N⟩, hq, hci, hk, hN, hC, hw⟩ := hf
  dsimp only at hk hN hC hw
  have hg := eWs_get E w ho
  rw [eEn_obj hc hci] at hg
  have hv : (eFs E.2.1 o (w o) ci)[k]? = some (eC E.2.1 (eFv o (w o) ci k)) := eFs_get _ _ _ (by rw [← hN]; exact hk)
  have hsame : ∀ x, s.fieldFound? (T k).1 (T k).2.1 (T k).2.2.1 = some x → s.fieldFound? C (T k).2.1 (T k).2.2.1 = some x := fun x h => by rw [← hC]; exact h
  rcases hw with hw | ⟨host, hw⟩
  · exact va_get (D := E.1) (cl := vwCl) (tys := eTy E) (ws := eWs E w) (ci := ci) (C := C) (T := T) (N := N) (Ts := eTb) hx hb hts (eInX ci _ hq) hown hK hP o hg hq k hk (hts _ hw) hsame hv hd (kk E p l e s m args below meth c H locs la X hP hS hl)
  · exact va_getN (D := E.1) (cl := vwCl) (tys := eTy E) (ws := eWs E w) (ci := ci) (C := C) (T := T) (N := N) (Ts := eTb) hx hb hts (eInX ci _ hq) hown hK hP o hg hq k hk (va_Nw.use rfl (hO.2.2.2.2.2.2 _ _ _ _ _ _ hw)) hsame hv hd (kk E p l e s m args below meth c H locs la X hP hS hl)
theorem go_getI {o idx ci k : Nat} {kz : Int} (hd : decode M.2.1 pc = .ok (.getfield idx, 3)) (hf : eFl M.1.cls idx ci k) (ho : o < eN) (hc : (eKd o).1 = ci) (ht : eTg ci k = 0) (hkz : (k : Int) = kz) (kk : Go M (pc + 3) ls ((0, w o kz) :: st) w r w') : Go M pc ls (eR o :: st) w r w' :=
  go_getV hd hf ho hc (by subst hkz; rw [show eFv o (w o) ci k = (0, w o k) by simp [eFv, ht]]; exact kk)
theorem go_getJ {o idx ci k : Nat} {kz : Int} (hd : decode M.2.1 pc = .ok (.getfield idx, 3)) (hf : eFl M.1.cls idx ci k) (ho : o < eN) (hc : (eKd o).1 = ci) (ht : eTg ci k = 1) (hkz : (k : Int) = kz) (kk : Go M (pc + 3) ls ((1, w o kz) :: st) w r w') : Go M pc ls (eR o :: st) w r w' :=
  go_getV hd hf ho hc (by subst hkz; rw [show eFv o (w o) ci k = (1, w o k) by simp [eFv, ht]]; exact kk)
theorem go_getR {o idx ci k t : Nat} (hd : decode M.2.1 pc = .ok (.getfield idx, 3)) (hf : eFl M.1.cls idx ci k) (ho : o < eN) (hc : (eKd o).1 = ci) (ht : eTg ci k = 2 ∧ eRf o k = t) (kk : Go M (pc + 3) ls (eR t :: st) w r w') : Go M pc ls (eR o :: st) w r w' :=
  go_getV hd hf ho hc (by rw [show eFv o (w o) ci k = eR t by simp [eFv, ht.1, ht.2]]; exact kk)
/-- putfield of an int, a long: v fits the field's type -/
theorem eFs_set {ad : Nat → Nat} {o ci k : Nat} {f : Int → Int} {v : Int} (hk : k < (eTags.getD ci []).length) (ht : eTg ci k = 0 ∨ eTg ci k = 1) : (eFs ad o f ci).set k (eC ad (eTg ci k, v)) = eFs ad o (fun j => if j = (k : Int) then v else f j) ci := by
  have hne : ¬ eTg ci k = 2 := by omega
  apply List.ext_getElem?
  intro j
  by_cases hj : j = k
  · subst hj
    rw [List.getElem?_set_self (by simp [eFs]; exact hk), eFs_get _ _ _ hk]
    simp [eFv, hne]
  · rw [List.getElem?_set_ne (Ne.symm hj)]
    by_cases hl : j < (eTags.getD ci []).length
    · rw [eFs_get _ _ _ hl, eFs_get _ _ _ hl]
      have : ¬ (j : Int) = (k : Int) := by omega
      simp [eFv, this]
    · rw [List.getElem?_eq_none (by simp [eFs]; simpa using hl), List.getElem?_eq_none (by simp [eFs]; simpa using hl)]
theorem go_putV {o idx ci k : Nat} {v : Int} (hd : decode M.2.1 pc = .ok (.putfield idx, 3)) (hf : eFl M.1.cls idx ci k) (ho : o < eN) (hc : (eKd o).1 = ci) (ht : eTg ci k = 0 ∨ eTg ci k = 1) (hfin : ∀ q, vwCl[ci]? = some q → (q.2.1 k).2.2.2 = false)
    (hfit : ∀ (ad : Nat → Nat) (ty : FieldType) (q : vw_C), vwCl[ci]? = some q → parseFieldDescriptor (q.2.1 k).2.2.1 = some ty → narrow ty (eC ad (eTg ci k, v)) = eC ad (eTg ci k, v) ∧ fits ty (eC ad (eTg ci k, v)) = true)
    (kk : Go M (pc + 3) ls st (eU w o k v) r w') : Go M pc ls ((eTg ci k, v) :: eR o :: st) w r w' := by
  intro E p l e s m args below meth c H locs la X hP hS hl
  obtain ⟨hx, hb, hml, hr, hlk, hown, hts, hK, hO, hA, hz⟩ := id X
  obtain ⟨⟨C, T, N⟩, hq, hci, hk, hN, hC, hw⟩ := hf
  dsimp only at hk hN hC hw
  have hg := eWs_get E w ho
  rw [eEn_obj hc hci] at hg
  have hlen : k < (eFs E.2.1 o (w o) ci).length := by simp [eFs]; rw [hN] at hk; simpa using hk
  have hsame : ∀ x, s.fieldFound? (T k).1 (T k).2.1 (T k).2.2.1 = some x → s.fieldFound? C (T k).2.1 (T k).2.2.1 = some x := fun x h => by rw [← hC]; exact h
  obtain ⟨ty0, hty, -⟩ := eTyX ci _ hq
  obtain ⟨g1, g2⟩ := hfit E.2.1 (ty0 k) _ hq (hty k hk)
  have hset : (eWs E w).set o (E.2.1 o, .inr (ci, (eFs E.2.1 o (w o) ci).set k (eC E.2.1 (eTg ci k, v)))) = eWs E (eU w o k v) := by
    refine eWs_set ho (fun j hj => eU_ne hj) ?_
    rw [eEn_obj hc hci, eFs_set (by rw [← hN]; exact hk) ht, eU_at]
  rcases hw with hw | ⟨host, hw⟩
  · refine va_put (D := E.1) (cl := vwCl) (tys := eTy E) (ws := eWs E w) (ci := ci) (C := C) (T := T) (N := N) (Ts := eTb) (A := eA E) (ty := ty0 k) hx hb hts (eInX ci _ hq) ty0 hty (eNmX ci _ hq) hown hK hP (eWs_D hA w) hS o hg hq k hk (hts _ hw) hsame (hfin _ hq) (hty k hk) g1 g2 hlen hd (fun H1 locs1 hP1 hD1 hS1 => ?_)
    rw [hset] at hP1
    exact kk E p l e s m args below meth c H1 locs1 la X hP1 hS1 hl
  · refine va_putN (D := E.1) (cl := vwCl) (tys := eTy E) (ws := eWs E w) (ci := ci) (C := C) (T := T) (N := N) (Ts := eTb) (A := eA E) (ty := ty0 k) hx hb hts (eInX ci _ hq) ty0 hty (eNmX ci _ hq) hown hK hP (eWs_D hA w) hS o hg hq k hk (va_Nw.use rfl (hO.2.2.2.2.2.2 _ _ _ _ _ _ hw)) hsame (hfin _ hq) (hty k hk) g1 g2 hlen hd (fun H1 locs1 hP1 hD1 hS1 => ?_)
    rw [hset] at hP1
    exact kk E p l e s m args below meth c H1 locs1 la X hP1 hS1 hl
/-- putfield of an int field -/
theorem go_putI {o idx ci k : Nat} {v kz : Int} (hd : decode M.2.1 pc = .ok (.putfield idx, 3)) (hf : eFl M.1.cls idx ci k) (ho : o < eN) (hc : (eKd o).1 = ci) (ht : eTg ci k = 0) (hg : ∀ q, vwCl[ci]? = some q → (q.2.1 k).2.2.2 = false ∧ (q.2.1 k).2.2.1 = "I") (hkz : (k : Int) = kz) (kk : Go M (pc + 3) ls st (eU w o kz v) r w') : Go M pc ls ((0, v) :: eR o :: st) w r w' := by
  subst hkz
  have h := go_putV (v := v) hd hf ho hc (Or.inl ht) (fun q h => (hg q h).1) (fun ad ty q h1 h2 => by
    rw [(hg q h1).2] at h2
    have e : ty = .int := (Option.some.inj h2).symm
    subst e
    rw [ht]
    exact ⟨rfl, rfl⟩) kk
  rw [ht] at h
  exact h
/-- putfield of a boolean field: 0 or 1 -/
theorem go_putZ {o idx ci k : Nat} {v kz : Int} (hd : decode M.2.1 pc = .ok (.putfield idx, 3)) (hf : eFl M.1.cls idx ci k) (ho : o < eN) (hc : (eKd o).1 = ci) (ht : eTg ci k = 0) (hg : ∀ q, vwCl[ci]? = some q → (q.2.1 k).2.2.2 = false ∧ (q.2.1 k).2.2.1 = "Z") (hkz : (k : Int) = kz) (hv : v = 0 ∨ v = 1) (kk : Go M (pc + 3) ls st (eU w o kz v) r w') : Go M pc ls ((0, v) :: eR o :: st) w r w' := by
  subst hkz
  have h := go_putV (v := v) hd hf ho hc (Or.inl ht) (fun q h => (hg q h).1) (fun ad ty q h1 h2 => by
    rw [(hg q h1).2] at h2
    have e : ty = .boolean := (Option.some.inj h2).symm
    subst e
    rw [ht]
    rcases hv with rfl | rfl
    · exact ⟨rfl, rfl⟩
    · exact ⟨rfl, rfl⟩) kk
  rw [ht] at h
  exact h
/-- putfield of a long field -/
theorem go_putJ {o idx ci k : Nat} {v kz : Int} (hd : decode M.2.1 pc = .ok (.putfield idx, 3)) (hf : eFl M.1.cls idx ci k) (ho : o < eN) (hc : (eKd o).1 = ci) (ht : eTg ci k = 1) (hg : ∀ q, vwCl[ci]? = some q → (q.2.1 k).2.2.2 = false ∧ (q.2.1 k).2.2.1 = "J") (hkz : (k : Int) = kz) (kk : Go M (pc + 3) ls st (eU w o kz v) r w') : Go M pc ls ((1, v) :: eR o :: st) w r w' := by
  subst hkz
  have h := go_putV (v := v) hd hf ho hc (Or.inr ht) (fun q h => (hg q h).1) (fun ad ty q h1 h2 => by
    rw [(hg q h1).2] at h2
    have e : ty = .long := (Option.some.inj h2).symm
    subst e
    rw [ht]
    exact ⟨rfl, rfl⟩) kk
  rw [ht] at h
  exact h
/-- int rows -/
theorem eNsmall {o t n : Nat} (h : eKd o = (t, n)) : n < 2147483648 := by
  have key : ∀ q ∈ eLay, q.2 < 2147483648 := by decide
  unfold eKd at h
  by_cases ho : o < eLay.length
  · have := key (eLay[o]) (List.getElem_mem ho)
    rw [List.getD_eq_getElem?_getD, List.getElem?_eq_getElem ho] at h
    simp at h
    rw [h] at this
    exact this
  · rw [List.getD_eq_getElem?_getD, List.getElem?_eq_none (by omega)] at h
    simp at h
    omega
theorem e_upd {f : Int → Int} {i v : Int} (h0 : 0 ≤ i) : upd (fun j : Nat => Int32.ofInt (f j)) i.toNat (Int32.ofInt v) = fun j : Nat => Int32.ofInt (if (j : Int) = i then v else f j) := by
  funext j
  unfold upd
  by_cases h : j = i.toNat
  · subst h
    simp [Int.toNat_of_nonneg h0]
  · have : ¬ (j : Int) = i := by omega
    simp [h, this]
theorem go_iald {o n : Nat} {i : Int} (hd : decode M.2.1 pc = .ok (.iaload, 1)) (ho : o < eN) (hk : eKd o = (10, n)) (hi : 0 ≤ i ∧ i < n) (kk : Go M (pc + 1) ls ((0, w o i) :: st) w r w') : Go M pc ls ((0, i) :: eR o :: st) w r w' := by
  intro E p l e s m args below meth c H locs la X hP hS hl
  obtain ⟨hx, hb, hml, hr, hlk, hown, hts, hK, hO, hA, hz⟩ := id X
  have hn := eNsmall hk
  have hg := eWs_get E w ho
  rw [eEn_ints hk] at hg
  refine va_iald hx hb hK hP o 1 hg rfl (e_in hi hn) hd ?_
  have h := kk E p l e s m args below meth c H locs la X hP hS hl
  rw [e_clamp hi.1 ⟨by omega, by omega⟩, Int.toNat_of_nonneg hi.1]
  exact h
theorem go_iast {o n : Nat} {i v : Int} (hd : decode M.2.1 pc = .ok (.iastore, 1)) (ho : o < eN) (hk : eKd o = (10, n)) (hi : 0 ≤ i ∧ i < n) (kk : Go M (pc + 1) ls st (eU w o i v) r w') : Go M pc ls ((0, v) :: (0, i) :: eR o :: st) w r w' := by
  intro E p l e s m args below meth c H locs la X hP hS hl
  obtain ⟨hx, hb, hml, hr, hlk, hown, hts, hK, hO, hA, hz⟩ := id X
  have hn := eNsmall hk
  have hg := eWs_get E w ho
  rw [eEn_ints hk] at hg
  refine va_iast hx hb hK hP (eWs_D hA w) hS o 1 hg rfl (e_in hi hn) hd (fun H1 locs1 hP1 hD1 hS1 => ?_)
  rw [e_clamp hi.1 ⟨by omega, by omega⟩, e_upd hi.1] at hP1
  rw [eWs_set (w' := eU w o i v) ho (fun j hj => eU_ne hj) (by rw [eEn_ints hk, eU_at])] at hP1
  exact kk E p l e s m args below meth c H1 locs1 la X hP1 hS1 hl
theorem go_bald {o n : Nat} {i : Int} (hd : decode M.2.1 pc = .ok (.baload, 1)) (ho : o < eN) (hk : eKd o = (9, n)) (hi : 0 ≤ i ∧ i < n) (kk : Go M (pc + 1) ls ((0, w o i) :: st) w r w') : Go M pc ls ((0, i) :: eR o :: st) w r w' := by
  intro E p l e s m args below meth c H locs la X hP hS hl
  obtain ⟨hx, hb, hml, hr, hlk, hown, hts, hK, hO, hA, hz⟩ := id X
  have hn := eNsmall hk
  have hg := eWs_get E w ho
  rw [eEn_bytes hk] at hg
  refine va_bald hx hb hK hP o 0 hg rfl (e_in hi hn) hd ?_
  have h := kk E p l e s m args below meth c H locs la X hP hS hl
  rw [e_clamp hi.1 ⟨by omega, by omega⟩, Int.toNat_of_nonneg hi.1]
  exact h
theorem e_nar {v : Int} (h : -128 ≤ v ∧ v < 128) : vp_nar .byte (Int32.ofInt v) = Int32.ofInt v := by
  have key : ∀ j : Fin 256, vp_nar .byte (Int32.ofInt ((j.val : Int) - 128)) = Int32.ofInt ((j.val : Int) - 128) := by decide +kernel
  have := key ⟨(v + 128).toNat, by omega⟩
  rw [show (((⟨(v + 128).toNat, by omega⟩ : Fin 256).val : Nat) : Int) - 128 = v by show ((v + 128).toNat : Int) - 128 = v; omega] at this
  exact this
theorem go_bast {o n : Nat} {i v : Int} (hd : decode M.2.1 pc = .ok (.bastore, 1)) (ho : o < eN) (hk : eKd o = (9, n)) (hi : 0 ≤ i ∧ i < n) (hv : -128 ≤ v ∧ v < 128) (kk : Go M (pc + 1) ls st (eU w o i v) r w') : Go M pc ls ((0, v) :: (0, i) :: eR o :: st) w r w' := by
  intro E p l e s m args below meth c H locs la X hP hS hl
  obtain ⟨hx, hb, hml, hr, hlk, hown, hts, hK, hO, hA, hz⟩ := id X
  have hn := eNsmall hk
  have hg := eWs_get E w ho
  rw [eEn_bytes hk] at hg
  refine va_bast hx hb hK hP (eWs_D hA w) hS o 0 hg rfl (e_in hi hn) hd (fun H1 locs1 hP1 hD1 hS1 => ?_)
  rw [e_clamp hi.1 ⟨by omega, by omega⟩, e_nar hv, e_upd hi.1] at hP1
  rw [eWs_set (w' := eU w o i v) ho (fun j hj => eU_ne hj) (by rw [eEn_bytes hk, eU_at])] at hP1
  exact kk E p l e s m args below meth c H1 locs1 la X hP1 hS1 hl
theorem go_alen {o n t : Nat} (hd : decode M.2.1 pc = .ok (.arraylength, 1)) (ho : o < eN) (hk : eKd o = (t, n)) (ht : t = 9 ∨ t = 10) (kk : Go M (pc + 1) ls ((0, (n : Int)) :: st) w r w') : Go M pc ls (eR o :: st) w r w' := by
  intro E p l e s m args below meth c H locs la X hP hS hl
  obtain ⟨hx, hb, hml, hr, hlk, hown, hts, hK, hO, hA, hz⟩ := id X
  have h := kk E p l e s m args below meth c H locs la X hP hS hl
  have hg := eWs_get E w ho
  rcases ht with rfl | rfl
  · rw [eEn_bytes hk] at hg
    exact va_alen hx hb hK hP o 0 hg (ty := .byte) rfl (v := Int32.ofInt (n : Int)) (Int32.ofInt_eq_ofNat).symm hd h
  · rw [eEn_ints hk] at hg
    exact va_alen hx hb hK hP o 1 hg (ty := .int) rfl (v := Int32.ofInt (n : Int)) (Int32.ofInt_eq_ofNat).symm hd h
/-- the table of quarter times -/
theorem go_getQ {idx : Nat} (hd : decode M.2.1 pc = .ok (.getstatic idx, 3)) (hw : Cond.fieldLink M.1.cls idx "EaveRoofs$Roof" "QUARTER_TIMES" "[I" ∈ eTb) (kk : Go M (pc + 3) ls (eR 100 :: st) w r w') : Go M pc ls st w r w' := by
  intro E p l e s m args below meth c H locs la X hP hS hl
  obtain ⟨hx, hb, hml, hr, hlk, hown, hts, hK, hO, hA, hz⟩ := id X
  exact va_gets hx hb hO.1 hS hown (hts _ hw) (fun _ h => h) hd (kk E p l e s m args below meth c H locs la X hP hS hl)
theorem go_qald {i : Int} (hd : decode M.2.1 pc = .ok (.iaload, 1)) (hi : 0 ≤ i ∧ i < 10) (kk : Go M (pc + 1) ls ((0, eQt i) :: st) w r w') : Go M pc ls ((0, i) :: eR 100 :: st) w r w' := by
  intro E p l e s m args below meth c H locs la X hP hS hl
  obtain ⟨hx, hb, hml, hr, hlk, hown, hts, hK, hO, hA, hz⟩ := id X
  obtain ⟨cell, h1, h2, h3, h4, h5, h6, h7⟩ := hO.2.1.kept hS.2.1
  have e1 : (Int32.ofInt i).toNatClampNeg = i.toNat := e_clamp hi.1 ⟨by omega, by omega⟩
  refine W.iald (v := .int (Int32.ofInt (eQt i))) hx hb h1 h2 h3 (fun q => (e_in (n := 10) (i := i) (by omega) (by omega)) (q.elim Or.inl (fun q => Or.inr (Nat.le_trans h4 q)))) ?_ rfl rfl hd (kk E p l e s m args below meth c H locs la X hP hS hl)
  rw [e1, h6 _ (by omega)]
  show some (Value.int (Int32.ofInt (eQt (i.toNat : Int)))) = _
  rw [Int.toNat_of_nonneg hi.1]
theorem go_qlen (hd : decode M.2.1 pc = .ok (.arraylength, 1)) (kk : Go M (pc + 1) ls ((0, 10) :: st) w r w') : Go M pc ls (eR 100 :: st) w r w' := by
  intro E p l e s m args below meth c H locs la X hP hS hl
  obtain ⟨hx, hb, hml, hr, hlk, hown, hts, hK, hO, hA, hz⟩ := id X
  obtain ⟨cell, h1, h2, h3, h4, h5, h6, h7⟩ := hO.2.1.kept hS.2.1
  exact W.alen (n := 10) hx hb h1 h2 h5 rfl rfl hd (kk E p l e s m args below meth c H locs la X hP hS hl)
/-- ends -/
theorem go_iret {n : Int} (hd : decode M.2.1 pc = .ok (.ireturn, 1)) (hr : M.2.2.2.1 = some .int) : Go M pc ls [(0, n)] w (some (0, n)) w := by
  intro E p l e s m args below meth c H locs la X hP hS hl
  obtain ⟨hx, hb, hml, hr', hlk, hown, hts, hK, hO, hA, hz⟩ := id X
  exact W.iret (v := Int32.ofInt n) hx hb (hr'.trans hr) (fun t ht hW => ⟨rfl, by rw [ht]; exact hP, hS.F ht⟩) hS.2.2 hd hlk
theorem go_zret {n : Int} (hd : decode M.2.1 pc = .ok (.ireturn, 1)) (hr : M.2.2.2.1 = some .boolean) (hn : n = 0 ∨ n = 1) : Go M pc ls [(0, n)] w (some (0, n)) w := by
  intro E p l e s m args below meth c H locs la X hP hS hl
  obtain ⟨hx, hb, hml, hr', hlk, hown, hts, hK, hO, hA, hz⟩ := id X
  exact W.zret (v := Int32.ofInt n) (ty := .boolean) hx hb (hr'.trans hr) (by rcases hn with rfl | rfl <;> rfl) (fun t ht hW => ⟨rfl, by rw [ht]; exact hP, hS.F ht⟩) hS.2.2 hd hlk
theorem go_lret {n : Int} (hd : decode M.2.1 pc = .ok (.lreturn, 1)) (hr : M.2.2.2.1 = some .long) : Go M pc ls [(1, n)] w (some (1, n)) w := by
  intro E p l e s m args below meth c H locs la X hP hS hl
  obtain ⟨hx, hb, hml, hr', hlk, hown, hts, hK, hO, hA, hz⟩ := id X
  exact W.lret (v := Int64.ofInt n) hx hb (hr'.trans hr) (fun t ht hW => ⟨rfl, by rw [ht]; exact hP, hS.F ht⟩) hS.2.2 hd hlk
theorem go_vret (hd : decode M.2.1 pc = .ok (.return_, 1)) (hr : M.2.2.2.1 = none) : Go M pc ls [] w none w := by
  intro E p l e s m args below meth c H locs la X hP hS hl
  obtain ⟨hx, hb, hml, hr', hlk, hown, hts, hK, hO, hA, hz⟩ := id X
  exact W.vret hx hb (hr'.trans hr) (fun t ht hW => ⟨rfl, by rw [ht]; exact hP, hS.F ht⟩) hS.2.2 hd hlk
end RH
