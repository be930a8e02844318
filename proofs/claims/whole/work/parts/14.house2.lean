def rX0_isLastInside (w : eW) (x y : Int) : Int := if insC w x y then (if (cnt2 w) = 1 then 1 else 0) else 0
set_option maxRecDepth 20000 in
theorem zX0_isLastInside (w : eW) (x y : Int) (hx : eI x) (hy : eI y) (hB : HB w) : Cal mX0_isLastInside [eR 2, (0, x), (0, y)] w (some (0, rX0_isLastInside w x y)) w := by
  obtain ⟨⟨b1, b2, b3, b4, b5, b6⟩, b7, b8, b9⟩ := id hB
  have b10 := cnt2_bound hB
  unfold rX0_isLastInside
  refine Cal.of (by decide +kernel) (Nat.le_of_ble_eq_true rfl) ?_
  show Go _ 0 [(0, eR 2), (1, (0, x)), (2, (0, y))] [] _ _ _
  refine go_aload_n (eD DX0_isLastInside 0 rfl) rfl rfl (go_iload_n (eD DX0_isLastInside 1 rfl) rfl rfl (go_iload_n (eD DX0_isLastInside 2 rfl) rfl rfl (go_callV (ci := 0) [(0, x), (0, y)] (eD DX0_isLastInside 3 rfl) ⟨eMem 4 134 rfl rfl, sX0_isInside⟩ ⟨Nat.le_of_ble_eq_true rfl, Nat.le_of_ble_eq_true rfl⟩ (by decide) ⟨rfl, by decide, _, rfl, rfl⟩ rfl rfl (Nat.le_of_ble_eq_true rfl) (y_b_X0_isInside w x y (by omega) (by omega) (by assumption)) (?_))))
  by_cases h1 : insC w x y
  · refine go_if_eqF (tgt := 21) (eD DX0_isLastInside 4 rfl) rfl (eI_pI _) (pI1 h1) ?_
    refine go_aload_n (eD DX0_isLastInside 5 rfl) rfl rfl (go_callV (ci := 0) [] (eD DX0_isLastInside 6 rfl) ⟨eMem 4 135 rfl rfl, sX0_countInside⟩ ⟨Nat.le_of_ble_eq_true rfl, Nat.le_of_ble_eq_true rfl⟩ (by decide) ⟨rfl, by decide, _, rfl, rfl⟩ rfl rfl (Nat.le_of_ble_eq_true rfl) (y_X0_countInside w (by assumption)) (go_iconst (eD DX0_isLastInside 7 rfl) (?_)))
    by_cases h2 : (cnt2 w) = 1
    · refine go_icmp_neF (tgt := 21) (eD DX0_isLastInside 8 rfl) rfl (show eI (cnt2 w) from by omega) (by decide) (not_not_intro h2) ?_
      simp only [if_pos h1, if_pos h2]
      exact go_iconst (eD DX0_isLastInside 9 rfl) (go_goto (tgt := 22) (eD DX0_isLastInside 10 rfl) rfl (go_zret (eD DX0_isLastInside 12 rfl) rfl (by decide)))
    · refine go_icmp_neT (tgt := 21) (eD DX0_isLastInside 8 rfl) rfl (show eI (cnt2 w) from by omega) (by decide) h2 ?_
      simp only [if_pos h1, if_neg h2]
      exact go_iconst (eD DX0_isLastInside 11 rfl) (go_zret (eD DX0_isLastInside 12 rfl) rfl (by decide))
  · refine go_if_eqT (tgt := 21) (eD DX0_isLastInside 4 rfl) rfl (eI_pI _) (pI0 h1) ?_
    simp only [if_neg h1]
    exact go_iconst (eD DX0_isLastInside 11 rfl) (go_zret (eD DX0_isLastInside 12 rfl) rfl (by decide))
theorem y_b_X0_isLastInside (w : eW) (x y : Int) (hx : eI x) (hy : eI y) (hB : HB w) : Cal mX0_isLastInside [eR 2, (0, x), (0, y)] w (some (0, if insC w x y ∧ cnt2 w = 1 then 1 else 0)) w := by
  obtain ⟨⟨b1, b2, b3, b4, b5, b6⟩, b7, b8, b9⟩ := id hB
  have b10 := cnt2_bound hB
  refine Cal.as (zX0_isLastInside w x y hx hy hB) ?_ rfl
  unfold rX0_isLastInside
  congr 2
  (repeat' split) <;> omega
def wX0_flip (w : eW) (x y : Int) : eW := if 0 ≤ x ∧ x < (w 2 0) ∧ 0 ≤ y ∧ y < (w 2 1) then (if y < 0 then w else (if y < (w 2 1) then (if y < 10 then (eU w 3 y (eXor (w 3 y) (1 * 2 ^ (x).toNat))) else w) else (if y < 10 then (eU w 3 y (eXor 0 (1 * 2 ^ (x).toNat))) else w))) else w
set_option maxRecDepth 20000 in
theorem zX0_flip (w : eW) (x y : Int) (hx : eI x) (hy : eI y) (hB : HB w) : Cal mX0_flip [eR 2, (0, x), (0, y)] w none (wX0_flip w x y) := by
  obtain ⟨⟨b1, b2, b3, b4, b5, b6⟩, b7, b8, b9⟩ := id hB
  have b10 := b7 y
  unfold wX0_flip
  refine Cal.of (by decide +kernel) (Nat.le_of_ble_eq_true rfl) ?_
  show Go _ 0 [(0, eR 2), (1, (0, x)), (2, (0, y))] [] _ _ _
  refine go_aload_n (eD DX0_flip 0 rfl) rfl rfl (go_iload_n (eD DX0_flip 1 rfl) rfl rfl (go_iload_n (eD DX0_flip 2 rfl) rfl rfl (go_callV (ci := 0) [(0, x), (0, y)] (eD DX0_flip 3 rfl) ⟨eMem 3 9 rfl rfl, sX0_hasCell⟩ ⟨Nat.le_of_ble_eq_true rfl, Nat.le_of_ble_eq_true rfl⟩ (by decide) ⟨rfl, by decide, _, rfl, rfl⟩ rfl rfl (Nat.le_of_ble_eq_true rfl) (y_b_X0_hasCell w x y (by omega) (by omega) (by assumption)) (?_))))
  by_cases h1 : 0 ≤ x ∧ x < (w 2 0) ∧ 0 ≤ y ∧ y < (w 2 1)
  · refine go_if_eqF (tgt := 23) (eD DX0_flip 4 rfl) rfl (eI_pI _) (pI1 h1) ?_
    refine go_aload_n (eD DX0_flip 5 rfl) rfl rfl (go_iload_n (eD DX0_flip 6 rfl) rfl rfl (go_aload_n (eD DX0_flip 7 rfl) rfl rfl (go_iload_n (eD DX0_flip 8 rfl) rfl rfl (?_))))
    by_cases h2 : y < 0
    · refine go_callV (ci := 0) [(0, y)] (eD DX0_flip 9 rfl) ⟨eMem 2 190 rfl rfl, sX0_lineAt⟩ ⟨Nat.le_of_ble_eq_true rfl, Nat.le_of_ble_eq_true rfl⟩ (by decide) ⟨rfl, by decide, _, rfl, rfl⟩ rfl rfl (Nat.le_of_ble_eq_true rfl) (Cal.as (zX0_lineAt w y (by omega) (by assumption)) (r2 := some (0, 0)) (w2 := w) (by simp only [rX0_lineAt, if_pos h1, if_pos h2]) rfl) (?_)
      refine go_iconst (eD DX0_flip 10 rfl) (go_iload_n (eD DX0_flip 11 rfl) rfl rfl (go_ishl (eD DX0_flip 12 rfl) (by omega) (go_ixor (eD DX0_flip 13 rfl) (?_))))
      refine go_callV (ci := 0) [(0, y), (0, eXor 0 (1 * 2 ^ (x).toNat))] (eD DX0_flip 14 rfl) ⟨eMem 4 140 rfl rfl, sX0_setLine⟩ ⟨Nat.le_of_ble_eq_true rfl, Nat.le_of_ble_eq_true rfl⟩ (by decide) ⟨rfl, by decide, _, rfl, rfl⟩ rfl rfl (Nat.le_of_ble_eq_true rfl) (Cal.as (zX0_setLine w y (eXor 0 (1 * 2 ^ (x).toNat)) (by omega) ) (r2 := none) (w2 := w) rfl (by simp only [wX0_setLine, if_pos h1, if_pos h2])) (?_)
      simp only [if_pos h1, if_pos h2]
      exact go_vret (eD DX0_flip 15 rfl) rfl
    · by_cases h3 : y < (w 2 1)
      · by_cases h4 : y < 10
        · refine go_callV (ci := 0) [(0, y)] (eD DX0_flip 9 rfl) ⟨eMem 2 190 rfl rfl, sX0_lineAt⟩ ⟨Nat.le_of_ble_eq_true rfl, Nat.le_of_ble_eq_true rfl⟩ (by decide) ⟨rfl, by decide, _, rfl, rfl⟩ rfl rfl (Nat.le_of_ble_eq_true rfl) (Cal.as (zX0_lineAt w y (by omega) (by assumption)) (r2 := some (0, w 3 y)) (w2 := w) (by simp only [rX0_lineAt, if_pos h1, if_neg h2, if_pos h3, if_pos h4]) rfl) (?_)
          refine go_iconst (eD DX0_flip 10 rfl) (go_iload_n (eD DX0_flip 11 rfl) rfl rfl (go_ishl (eD DX0_flip 12 rfl) (by omega) (go_ixor (eD DX0_flip 13 rfl) (?_))))
          refine go_callV (ci := 0) [(0, y), (0, eXor (w 3 y) (1 * 2 ^ (x).toNat))] (eD DX0_flip 14 rfl) ⟨eMem 4 140 rfl rfl, sX0_setLine⟩ ⟨Nat.le_of_ble_eq_true rfl, Nat.le_of_ble_eq_true rfl⟩ (by decide) ⟨rfl, by decide, _, rfl, rfl⟩ rfl rfl (Nat.le_of_ble_eq_true rfl) (Cal.as (zX0_setLine w y (eXor (w 3 y) (1 * 2 ^ (x).toNat)) (by omega) ) (r2 := none) (w2 := (eU w 3 y (eXor (w 3 y) (1 * 2 ^ (x).toNat)))) rfl (by simp only [wX0_setLine, if_pos h1, if_neg h2, if_pos h3, if_pos h4])) (?_)
          simp only [if_pos h1, if_neg h2, if_pos h3, if_pos h4]
          exact go_vret (eD DX0_flip 15 rfl) rfl
        · refine go_callV (ci := 0) [(0, y)] (eD DX0_flip 9 rfl) ⟨eMem 2 190 rfl rfl, sX0_lineAt⟩ ⟨Nat.le_of_ble_eq_true rfl, Nat.le_of_ble_eq_true rfl⟩ (by decide) ⟨rfl, by decide, _, rfl, rfl⟩ rfl rfl (Nat.le_of_ble_eq_true rfl) (Cal.as (zX0_lineAt w y (by omega) (by assumption)) (r2 := some (0, 0)) (w2 := w) (by simp only [rX0_lineAt, if_pos h1, if_neg h2, if_pos h3, if_neg h4]) rfl) (?_)
          refine go_iconst (eD DX0_flip 10 rfl) (go_iload_n (eD DX0_flip 11 rfl) rfl rfl (go_ishl (eD DX0_flip 12 rfl) (by omega) (go_ixor (eD DX0_flip 13 rfl) (?_))))
          refine go_callV (ci := 0) [(0, y), (0, eXor 0 (1 * 2 ^ (x).toNat))] (eD DX0_flip 14 rfl) ⟨eMem 4 140 rfl rfl, sX0_setLine⟩ ⟨Nat.le_of_ble_eq_true rfl, Nat.le_of_ble_eq_true rfl⟩ (by decide) ⟨rfl, by decide, _, rfl, rfl⟩ rfl rfl (Nat.le_of_ble_eq_true rfl) (Cal.as (zX0_setLine w y (eXor 0 (1 * 2 ^ (x).toNat)) (by omega) ) (r2 := none) (w2 := w) rfl (by simp only [wX0_setLine, if_pos h1, if_neg h2, if_pos h3, if_neg h4])) (?_)
          simp only [if_pos h1, if_neg h2, if_pos h3, if_neg h4]
          exact go_vret (eD DX0_flip 15 rfl) rfl
      · refine go_callV (ci := 0) [(0, y)] (eD DX0_flip 9 rfl) ⟨eMem 2 190 rfl rfl, sX0_lineAt⟩ ⟨Nat.le_of_ble_eq_true rfl, Nat.le_of_ble_eq_true rfl⟩ (by decide) ⟨rfl, by decide, _, rfl, rfl⟩ rfl rfl (Nat.le_of_ble_eq_true rfl) (Cal.as (zX0_lineAt w y (by omega) (by assumption)) (r2 := some (0, 0)) (w2 := w) (by simp only [rX0_lineAt, if_pos h1, if_neg h2, if_neg h3]) rfl) (?_)
        refine go_iconst (eD DX0_flip 10 rfl) (go_iload_n (eD DX0_flip 11 rfl) rfl rfl (go_ishl (eD DX0_flip 12 rfl) (by omega) (go_ixor (eD DX0_flip 13 rfl) (?_))))
        by_cases h4 : y < 10
        · refine go_callV (ci := 0) [(0, y), (0, eXor 0 (1 * 2 ^ (x).toNat))] (eD DX0_flip 14 rfl) ⟨eMem 4 140 rfl rfl, sX0_setLine⟩ ⟨Nat.le_of_ble_eq_true rfl, Nat.le_of_ble_eq_true rfl⟩ (by decide) ⟨rfl, by decide, _, rfl, rfl⟩ rfl rfl (Nat.le_of_ble_eq_true rfl) (Cal.as (zX0_setLine w y (eXor 0 (1 * 2 ^ (x).toNat)) (by omega) ) (r2 := none) (w2 := (eU w 3 y (eXor 0 (1 * 2 ^ (x).toNat)))) rfl (by simp only [wX0_setLine, if_pos h1, if_neg h2, if_neg h3, if_pos h4])) (?_)
          simp only [if_pos h1, if_neg h2, if_neg h3, if_pos h4]
          exact go_vret (eD DX0_flip 15 rfl) rfl
        · refine go_callV (ci := 0) [(0, y), (0, eXor 0 (1 * 2 ^ (x).toNat))] (eD DX0_flip 14 rfl) ⟨eMem 4 140 rfl rfl, sX0_setLine⟩ ⟨Nat.le_of_ble_eq_true rfl, Nat.le_of_ble_eq_true rfl⟩ (by decide) ⟨rfl, by decide, _, rfl, rfl⟩ rfl rfl (Nat.le_of_ble_eq_true rfl) (Cal.as (zX0_setLine w y (eXor 0 (1 * 2 ^ (x).toNat)) (by omega) ) (r2 := none) (w2 := w) rfl (by simp only [wX0_setLine, if_pos h1, if_neg h2, if_neg h3, if_neg h4])) (?_)
          simp only [if_pos h1, if_neg h2, if_neg h3, if_neg h4]
          exact go_vret (eD DX0_flip 15 rfl) rfl
  · refine go_if_eqT (tgt := 23) (eD DX0_flip 4 rfl) rfl (eI_pI _) (pI0 h1) ?_
    simp only [if_neg h1]
    exact go_vret (eD DX0_flip 15 rfl) rfl
def wX0_clear (w : eW) : eW := (eFill (eFill (eFill (eU (eU (eU w 9 0 0) 9 1 0) 9 2 0) 10 10 0) 11 4 1) 12 16 0)
set_option maxRecDepth 20000 in
theorem zX0_clear (w : eW) : Cal mX0_clear [eR 9] w none (wX0_clear w) := by
  unfold wX0_clear
  refine Cal.of (by decide +kernel) (Nat.le_of_ble_eq_true rfl) ?_
  show Go _ 0 [(0, eR 9)] [] _ _ _
  exact go_aload_n (eD DX0_clear 0 rfl) rfl rfl (go_iconst (eD DX0_clear 1 rfl) (go_putI (kz := 0) (eD DX0_clear 2 rfl) fX0_9 (by decide) rfl rfl (fun q h => by cases h; exact ⟨rfl, rfl⟩) rfl (go_aload_n (eD DX0_clear 3 rfl) rfl rfl (go_iconst (eD DX0_clear 4 rfl) (go_putI (kz := 1) (eD DX0_clear 5 rfl) fX0_15 (by decide) rfl rfl (fun q h => by cases h; exact ⟨rfl, rfl⟩) rfl (go_aload_n (eD DX0_clear 6 rfl) rfl rfl (go_iconst (eD DX0_clear 7 rfl) (go_putI (kz := 2) (eD DX0_clear 8 rfl) fX0_18 (by decide) rfl rfl (fun q h => by cases h; exact ⟨rfl, rfl⟩) rfl (go_aload_n (eD DX0_clear 9 rfl) rfl rfl (go_getR (t := 10) (eD DX0_clear 10 rfl) fX0_21 (by decide) rfl ⟨rfl, rfl⟩ (go_iconst (eD DX0_clear 11 rfl) (go_callS [eR 10, (0, 0)] (eD DX0_clear 12 rfl) ⟨eMem 2 66 rfl rfl, sJ7_fill_53178⟩ ⟨Nat.le_of_ble_eq_true rfl, Nat.le_of_ble_eq_true rfl⟩ rfl rfl (Nat.le_of_ble_eq_true rfl) (y_J7_fill (n := 10) (by decide) rfl (eU (eU (eU w 9 0 0) 9 1 0) 9 2 0) 0) (go_aload_n (eD DX0_clear 13 rfl) rfl rfl (go_getR (t := 11) (eD DX0_clear 14 rfl) fX0_25 (by decide) rfl ⟨rfl, rfl⟩ (go_iconst (eD DX0_clear 15 rfl) (go_callS [eR 11, (0, 1)] (eD DX0_clear 16 rfl) ⟨eMem 2 66 rfl rfl, sJ7_fill_53178⟩ ⟨Nat.le_of_ble_eq_true rfl, Nat.le_of_ble_eq_true rfl⟩ rfl rfl (Nat.le_of_ble_eq_true rfl) (y_J7_fill (n := 4) (by decide) rfl (eFill (eU (eU (eU w 9 0 0) 9 1 0) 9 2 0) 10 10 0) 1) (go_aload_n (eD DX0_clear 17 rfl) rfl rfl (go_getR (t := 12) (eD DX0_clear 18 rfl) fX0_28 (by decide) rfl ⟨rfl, rfl⟩ (go_iconst (eD DX0_clear 19 rfl) (go_callS [eR 12, (0, 0)] (eD DX0_clear 20 rfl) ⟨eMem 2 66 rfl rfl, sJ7_fill_53178⟩ ⟨Nat.le_of_ble_eq_true rfl, Nat.le_of_ble_eq_true rfl⟩ rfl rfl (Nat.le_of_ble_eq_true rfl) (y_J7_fill (n := 16) (by decide) rfl (eFill (eFill (eU (eU (eU w 9 0 0) 9 1 0) 9 2 0) 10 10 0) 11 4 1) 0) (go_vret (eD DX0_clear 21 rfl) rfl)))))))))))))))))))))
def wX0_become (w : eW) : eW := (eCpy (eCpy (eCpy (eU (eU (eU w 2 0 (w 9 0)) 2 1 (w 9 1)) 2 2 (w 9 2)) 10 3 0 0 10) 11 4 0 0 4) 12 5 0 0 16)
set_option maxRecDepth 20000 in
theorem zX0_become (w : eW) : Cal mX0_become [eR 2, eR 9] w none (wX0_become w) := by
  unfold wX0_become
  refine Cal.of (by decide +kernel) (Nat.le_of_ble_eq_true rfl) ?_
  show Go _ 0 [(0, eR 2), (1, eR 9)] [] _ _ _
  exact go_aload_n (eD DX0_become 0 rfl) rfl rfl (go_aload_n (eD DX0_become 1 rfl) rfl rfl (go_getI (kz := 0) (eD DX0_become 2 rfl) fX0_9 (by decide) rfl rfl rfl (go_putI (kz := 0) (eD DX0_become 3 rfl) fX0_9 (by decide) rfl rfl (fun q h => by cases h; exact ⟨rfl, rfl⟩) rfl (go_aload_n (eD DX0_become 4 rfl) rfl rfl (go_aload_n (eD DX0_become 5 rfl) rfl rfl (go_getI (kz := 1) (eD DX0_become 6 rfl) fX0_15 (by decide) rfl rfl rfl (go_putI (kz := 1) (eD DX0_become 7 rfl) fX0_15 (by decide) rfl rfl (fun q h => by cases h; exact ⟨rfl, rfl⟩) rfl (go_aload_n (eD DX0_become 8 rfl) rfl rfl (go_aload_n (eD DX0_become 9 rfl) rfl rfl (go_getI (kz := 2) (eD DX0_become 10 rfl) fX0_18 (by decide) rfl rfl rfl (go_putI (kz := 2) (eD DX0_become 11 rfl) fX0_18 (by decide) rfl rfl (fun q h => by cases h; exact ⟨rfl, rfl⟩) rfl (go_aload_n (eD DX0_become 12 rfl) rfl rfl (go_getR (t := 10) (eD DX0_become 13 rfl) fX0_21 (by decide) rfl ⟨rfl, rfl⟩ (go_iconst (eD DX0_become 14 rfl) (go_aload_n (eD DX0_become 15 rfl) rfl rfl (go_getR (t := 3) (eD DX0_become 16 rfl) fX0_21 (by decide) rfl ⟨rfl, rfl⟩ (go_iconst (eD DX0_become 17 rfl) (go_bipush (eD DX0_become 18 rfl) (by decide) (go_copy (na := 10) (nb := 10) (eD DX0_become 19 rfl) (eMem 2 204 rfl rfl) ⟨Nat.le_of_ble_eq_true rfl, Nat.le_of_ble_eq_true rfl⟩ (by decide) (by decide) rfl rfl (show (0 : Int) ≤ 0 from by decide) (show (0 : Int) ≤ 0 from by decide) (show (0 : Int) ≤ 10 from by decide) (show (0 + 10 : Int) ≤ 10 from by decide) (show (0 + 10 : Int) ≤ 10 from by decide) (go_aload_n (eD DX0_become 20 rfl) rfl rfl (go_getR (t := 11) (eD DX0_become 21 rfl) fX0_25 (by decide) rfl ⟨rfl, rfl⟩ (go_iconst (eD DX0_become 22 rfl) (go_aload_n (eD DX0_become 23 rfl) rfl rfl (go_getR (t := 4) (eD DX0_become 24 rfl) fX0_25 (by decide) rfl ⟨rfl, rfl⟩ (go_iconst (eD DX0_become 25 rfl) (go_iconst (eD DX0_become 26 rfl) (go_copy (na := 4) (nb := 4) (eD DX0_become 27 rfl) (eMem 2 204 rfl rfl) ⟨Nat.le_of_ble_eq_true rfl, Nat.le_of_ble_eq_true rfl⟩ (by decide) (by decide) rfl rfl (show (0 : Int) ≤ 0 from by decide) (show (0 : Int) ≤ 0 from by decide) (show (0 : Int) ≤ 4 from by decide) (show (0 + 4 : Int) ≤ 4 from by decide) (show (0 + 4 : Int) ≤ 4 from by decide) (go_aload_n (eD DX0_become 28 rfl) rfl rfl (go_getR (t := 12) (eD DX0_become 29 rfl) fX0_28 (by decide) rfl ⟨rfl, rfl⟩ (go_iconst (eD DX0_become 30 rfl) (go_aload_n (eD DX0_become 31 rfl) rfl rfl (go_getR (t := 5) (eD DX0_become 32 rfl) fX0_28 (by decide) rfl ⟨rfl, rfl⟩ (go_iconst (eD DX0_become 33 rfl) (go_bipush (eD DX0_become 34 rfl) (by decide) (go_copy (na := 16) (nb := 16) (eD DX0_become 35 rfl) (eMem 2 204 rfl rfl) ⟨Nat.le_of_ble_eq_true rfl, Nat.le_of_ble_eq_true rfl⟩ (by decide) (by decide) rfl rfl (show (0 : Int) ≤ 0 from by decide) (show (0 : Int) ≤ 0 from by decide) (show (0 : Int) ≤ 16 from by decide) (show (0 + 16 : Int) ≤ 16 from by decide) (show (0 + 16 : Int) ≤ 16 from by decide) (go_vret (eD DX0_become 36 rfl) rfl))))))))))))))))))))))))))))))))))))
def wX0_addMark (w : eW) (px py : Int) : eW := if (2 * (w 9 2)) < 0 then w else (if ((2 * (w 9 2)) + 1) < 16 then (eU (eU (eU w 12 (2 * (w 9 2)) px) 12 ((2 * (w 9 2)) + 1) py) 9 2 ((w 9 2) + 1)) else w)
set_option maxRecDepth 20000 in
theorem zX0_addMark (w : eW) (px py : Int) (hD : 0 ≤ w 9 2 ∧ w 9 2 ≤ 8) : Cal mX0_addMark [eR 9, (0, px), (0, py)] w none (wX0_addMark w px py) := by
  unfold wX0_addMark
  refine Cal.of (by decide +kernel) (Nat.le_of_ble_eq_true rfl) ?_
  show Go _ 0 [(0, eR 9), (1, (0, px)), (2, (0, py))] [] _ _ _
  refine go_iconst (eD DX0_addMark 0 rfl) (go_aload_n (eD DX0_addMark 1 rfl) rfl rfl (go_getI (kz := 2) (eD DX0_addMark 2 rfl) fX0_18 (by decide) rfl rfl rfl (go_imul (eD DX0_addMark 3 rfl) (go_istore_n (eD DX0_addMark 4 rfl) rfl (by decide) (go_iload_n (eD DX0_addMark 5 rfl) rfl rfl (?_))))))
  by_cases h1 : (2 * (w 9 2)) < 0
  · refine go_if_ltT (tgt := 48) (eD DX0_addMark 6 rfl) rfl (show eI (2 * (w 9 2)) from by omega) h1 ?_
    simp only [if_pos h1]
    exact go_vret (eD DX0_addMark 32 rfl) rfl
  · refine go_if_ltF (tgt := 48) (eD DX0_addMark 6 rfl) rfl (show eI (2 * (w 9 2)) from by omega) h1 ?_
    refine go_iload_n (eD DX0_addMark 7 rfl) rfl rfl (go_iconst (eD DX0_addMark 8 rfl) (go_iadd (eD DX0_addMark 9 rfl) (go_aload_n (eD DX0_addMark 10 rfl) rfl rfl (go_getR (t := 12) (eD DX0_addMark 11 rfl) fX0_28 (by decide) rfl ⟨rfl, rfl⟩ (go_alen (n := 16) (eD DX0_addMark 12 rfl) (by decide) rfl (by decide) (?_))))))
    by_cases h2 : ((2 * (w 9 2)) + 1) < 16
    · refine go_icmp_geF (tgt := 48) (eD DX0_addMark 13 rfl) rfl (show eI ((2 * (w 9 2)) + 1) from by omega) (by decide) (Int.not_le.mpr h2) ?_
      simp only [if_neg h1, if_pos h2]
      exact go_aload_n (eD DX0_addMark 14 rfl) rfl rfl (go_getR (t := 12) (eD DX0_addMark 15 rfl) fX0_28 (by decide) rfl ⟨rfl, rfl⟩ (go_iload_n (eD DX0_addMark 16 rfl) rfl rfl (go_iload_n (eD DX0_addMark 17 rfl) rfl rfl (go_iast (n := 16) (eD DX0_addMark 18 rfl) (by decide) rfl (show 0 ≤ (2 * (w 9 2)) ∧ (2 * (w 9 2)) < 16 from by omega) (go_aload_n (eD DX0_addMark 19 rfl) rfl rfl (go_getR (t := 12) (eD DX0_addMark 20 rfl) fX0_28 (by decide) rfl ⟨rfl, rfl⟩ (go_iload_n (eD DX0_addMark 21 rfl) rfl rfl (go_iconst (eD DX0_addMark 22 rfl) (go_iadd (eD DX0_addMark 23 rfl) (go_iload_n (eD DX0_addMark 24 rfl) rfl rfl (go_iast (n := 16) (eD DX0_addMark 25 rfl) (by decide) rfl (show 0 ≤ ((2 * (w 9 2)) + 1) ∧ ((2 * (w 9 2)) + 1) < 16 from by omega) (go_aload_n (eD DX0_addMark 26 rfl) rfl rfl (go_dup (eD DX0_addMark 27 rfl) (by decide) (go_getI (kz := 2) (eD DX0_addMark 28 rfl) fX0_18 (by decide) rfl rfl rfl (go_iconst (eD DX0_addMark 29 rfl) (go_iadd (eD DX0_addMark 30 rfl) (go_putI (kz := 2) (eD DX0_addMark 31 rfl) fX0_18 (by decide) rfl rfl (fun q h => by cases h; exact ⟨rfl, rfl⟩) rfl (go_vret (eD DX0_addMark 32 rfl) rfl))))))))))))))))))
    · refine go_icmp_geT (tgt := 48) (eD DX0_addMark 13 rfl) rfl (show eI ((2 * (w 9 2)) + 1) from by omega) (by decide) (Int.not_lt.mp h2) ?_
      simp only [if_neg h1, if_neg h2]
      exact go_vret (eD DX0_addMark 32 rfl) rfl
def rX0_markPart (w : eW) (i what : Int) : Int := if ((2 * i) + what) < 0 then 0 else (if ((2 * i) + what) < 16 then (w 5 ((2 * i) + what)) else 0)
set_option maxRecDepth 20000 in
theorem zX0_markPart (w : eW) (i what : Int) (hi : eI i) (hwhat : eI what) (hi2 : 0 ≤ i ∧ i < 8 ∧ 0 ≤ what ∧ what < 2) : Cal mX0_markPart [eR 2, (0, i), (0, what)] w (some (0, rX0_markPart w i what)) w := by
  unfold rX0_markPart
  refine Cal.of (by decide +kernel) (Nat.le_of_ble_eq_true rfl) ?_
  show Go _ 0 [(0, eR 2), (1, (0, i)), (2, (0, what))] [] _ _ _
  refine go_iconst (eD DX0_markPart 0 rfl) (go_iload_n (eD DX0_markPart 1 rfl) rfl rfl (go_imul (eD DX0_markPart 2 rfl) (go_iload_n (eD DX0_markPart 3 rfl) rfl rfl (go_iadd (eD DX0_markPart 4 rfl) (go_istore_n (eD DX0_markPart 5 rfl) rfl (by decide) (go_iload_n (eD DX0_markPart 6 rfl) rfl rfl (?_)))))))
  by_cases h1 : ((2 * i) + what) < 0
  · refine go_if_ltT (tgt := 28) (eD DX0_markPart 7 rfl) rfl (by omega) h1 ?_
    simp only [if_pos h1]
    exact go_iconst (eD DX0_markPart 18 rfl) (go_iret (eD DX0_markPart 19 rfl) rfl)
  · refine go_if_ltF (tgt := 28) (eD DX0_markPart 7 rfl) rfl (by omega) h1 ?_
    refine go_iload_n (eD DX0_markPart 8 rfl) rfl rfl (go_aload_n (eD DX0_markPart 9 rfl) rfl rfl (go_getR (t := 5) (eD DX0_markPart 10 rfl) fX0_28 (by decide) rfl ⟨rfl, rfl⟩ (go_alen (n := 16) (eD DX0_markPart 11 rfl) (by decide) rfl (by decide) (?_))))
    by_cases h2 : ((2 * i) + what) < 16
    · refine go_icmp_geF (tgt := 28) (eD DX0_markPart 12 rfl) rfl (by omega) (by decide) (Int.not_le.mpr h2) ?_
      simp only [if_neg h1, if_pos h2]
      exact go_aload_n (eD DX0_markPart 13 rfl) rfl rfl (go_getR (t := 5) (eD DX0_markPart 14 rfl) fX0_28 (by decide) rfl ⟨rfl, rfl⟩ (go_iload_n (eD DX0_markPart 15 rfl) rfl rfl (go_iald (n := 16) (eD DX0_markPart 16 rfl) (by decide) rfl (by omega) (go_goto (tgt := 29) (eD DX0_markPart 17 rfl) rfl (go_iret (eD DX0_markPart 19 rfl) rfl)))))
    · refine go_icmp_geT (tgt := 28) (eD DX0_markPart 12 rfl) rfl (by omega) (by decide) (Int.not_lt.mp h2) ?_
      simp only [if_neg h1, if_neg h2]
      exact go_iconst (eD DX0_markPart 18 rfl) (go_iret (eD DX0_markPart 19 rfl) rfl)
def wX1_keep (w : eW) : eW := if (w 6 1) < 10 then (if ((w 6 1) * 14) < 0 then w else (if 140 < (((w 6 1) * 14) + 14) then w else (eU (eCpy (eCpy w 3 7 0 ((w 6 1) * 14) 10) 4 7 0 (((w 6 1) * 14) + 10) 4) 6 1 (((eCpy (eCpy w 3 7 0 ((w 6 1) * 14) 10) 4 7 0 (((w 6 1) * 14) + 10) 4) 6 1) + 1)))) else (eU (eCpy (eCpy (eU (eCpy w 7 7 14 0 126) 6 1 9) 3 7 0 (9 * 14) 10) 4 7 0 ((9 * 14) + 10) 4) 6 1 (((eCpy (eCpy (eU (eCpy w 7 7 14 0 126) 6 1 9) 3 7 0 (9 * 14) 10) 4 7 0 ((9 * 14) + 10) 4) 6 1) + 1))
set_option maxRecDepth 20000 in
theorem zX1_keep (w : eW) (hp : 0 ≤ w 6 1 ∧ w 6 1 ≤ 10) : Cal mX1_keep [eR 6, eR 2] w none (wX1_keep w) := by
  unfold wX1_keep
  refine Cal.of (by decide +kernel) (Nat.le_of_ble_eq_true rfl) ?_
  show Go _ 0 [(0, eR 6), (1, eR 2)] [] _ _ _
  refine go_aload_n (eD DX1_keep 0 rfl) rfl rfl (go_getI (kz := 1) (eD DX1_keep 1 rfl) fX1_15 (by decide) rfl rfl rfl (go_bipush (eD DX1_keep 2 rfl) (by decide) (?_)))
  by_cases h1 : (w 6 1) < 10
  · refine go_icmp_ltT (tgt := 31) (eD DX1_keep 3 rfl) rfl (show eI (w 6 1) from by omega) (by decide) h1 ?_
    refine go_aload_n (eD DX1_keep 15 rfl) rfl rfl (go_getI (kz := 1) (eD DX1_keep 16 rfl) fX1_15 (by decide) rfl rfl rfl (go_bipush (eD DX1_keep 17 rfl) (by decide) (go_imul (eD DX1_keep 18 rfl) (go_istore_n (eD DX1_keep 19 rfl) rfl (by decide) (go_iload_n (eD DX1_keep 20 rfl) rfl rfl (?_))))))
    by_cases h2 : ((w 6 1) * 14) < 0
    · refine go_if_ltT (tgt := 97) (eD DX1_keep 21 rfl) rfl (show eI ((w 6 1) * 14) from by omega) h2 ?_
      simp only [if_pos h1, if_pos h2]
      exact go_vret (eD DX1_keep 53 rfl) rfl
    · refine go_if_ltF (tgt := 97) (eD DX1_keep 21 rfl) rfl (show eI ((w 6 1) * 14) from by omega) h2 ?_
      refine go_iload_n (eD DX1_keep 22 rfl) rfl rfl (go_bipush (eD DX1_keep 23 rfl) (by decide) (go_iadd (eD DX1_keep 24 rfl) (go_aload_n (eD DX1_keep 25 rfl) rfl rfl (go_getR (t := 7) (eD DX1_keep 26 rfl) fX1_11 (by decide) rfl ⟨rfl, rfl⟩ (go_alen (n := 140) (eD DX1_keep 27 rfl) (by decide) rfl (by decide) (?_))))))
      by_cases h3 : 140 < (((w 6 1) * 14) + 14)
      · refine go_icmp_gtT (tgt := 97) (eD DX1_keep 28 rfl) rfl (show eI (((w 6 1) * 14) + 14) from by omega) (by decide) h3 ?_
        simp only [if_pos h1, if_neg h2, if_pos h3]
        exact go_vret (eD DX1_keep 53 rfl) rfl
      · refine go_icmp_gtF (tgt := 97) (eD DX1_keep 28 rfl) rfl (show eI (((w 6 1) * 14) + 14) from by omega) (by decide) h3 ?_
        simp only [if_pos h1, if_neg h2, if_neg h3]
        exact go_aload_n (eD DX1_keep 29 rfl) rfl rfl (go_getR (t := 3) (eD DX1_keep 30 rfl) fX1_25 (by decide) rfl ⟨rfl, rfl⟩ (go_iconst (eD DX1_keep 31 rfl) (go_aload_n (eD DX1_keep 32 rfl) rfl rfl (go_getR (t := 7) (eD DX1_keep 33 rfl) fX1_11 (by decide) rfl ⟨rfl, rfl⟩ (go_iload_n (eD DX1_keep 34 rfl) rfl rfl (go_bipush (eD DX1_keep 35 rfl) (by decide) (go_copy (na := 10) (nb := 140) (eD DX1_keep 36 rfl) (eMem 4 153 rfl rfl) ⟨Nat.le_of_ble_eq_true rfl, Nat.le_of_ble_eq_true rfl⟩ (by decide) (by decide) rfl rfl (show (0 : Int) ≤ 0 from by decide) (show 0 ≤ ((w 6 1) * 14) from by omega) (show (0 : Int) ≤ 10 from by decide) (show (0 + 10 : Int) ≤ 10 from by decide) (show ((w 6 1) * 14) + 10 ≤ 140 from by omega) (go_aload_n (eD DX1_keep 37 rfl) rfl rfl (go_getR (t := 4) (eD DX1_keep 38 rfl) fX1_30 (by decide) rfl ⟨rfl, rfl⟩ (go_iconst (eD DX1_keep 39 rfl) (go_aload_n (eD DX1_keep 40 rfl) rfl rfl (go_getR (t := 7) (eD DX1_keep 41 rfl) fX1_11 (by decide) rfl ⟨rfl, rfl⟩ (go_iload_n (eD DX1_keep 42 rfl) rfl rfl (go_bipush (eD DX1_keep 43 rfl) (by decide) (go_iadd (eD DX1_keep 44 rfl) (go_iconst (eD DX1_keep 45 rfl) (go_copy (na := 4) (nb := 140) (eD DX1_keep 46 rfl) (eMem 4 153 rfl rfl) ⟨Nat.le_of_ble_eq_true rfl, Nat.le_of_ble_eq_true rfl⟩ (by decide) (by decide) rfl rfl (show (0 : Int) ≤ 0 from by decide) (show 0 ≤ (((w 6 1) * 14) + 10) from by omega) (show (0 : Int) ≤ 4 from by decide) (show (0 + 4 : Int) ≤ 4 from by decide) (show (((w 6 1) * 14) + 10) + 4 ≤ 140 from by omega) (go_aload_n (eD DX1_keep 47 rfl) rfl rfl (go_dup (eD DX1_keep 48 rfl) (by decide) (go_getI (kz := 1) (eD DX1_keep 49 rfl) fX1_15 (by decide) rfl rfl rfl (go_iconst (eD DX1_keep 50 rfl) (go_iadd (eD DX1_keep 51 rfl) (go_putI (kz := 1) (eD DX1_keep 52 rfl) fX1_15 (by decide) rfl rfl (fun q h => by cases h; exact ⟨rfl, rfl⟩) rfl (go_vret (eD DX1_keep 53 rfl) rfl))))))))))))))))))))))))
  · refine go_icmp_ltF (tgt := 31) (eD DX1_keep 3 rfl) rfl (show eI (w 6 1) from by omega) (by decide) h1 ?_
    refine go_aload_n (eD DX1_keep 4 rfl) rfl rfl (go_getR (t := 7) (eD DX1_keep 5 rfl) fX1_11 (by decide) rfl ⟨rfl, rfl⟩ (go_bipush (eD DX1_keep 6 rfl) (by decide) (go_aload_n (eD DX1_keep 7 rfl) rfl rfl (go_getR (t := 7) (eD DX1_keep 8 rfl) fX1_11 (by decide) rfl ⟨rfl, rfl⟩ (go_iconst (eD DX1_keep 9 rfl) (go_bipush (eD DX1_keep 10 rfl) (by decide) (go_copy (na := 140) (nb := 140) (eD DX1_keep 11 rfl) (eMem 4 153 rfl rfl) ⟨Nat.le_of_ble_eq_true rfl, Nat.le_of_ble_eq_true rfl⟩ (by decide) (by decide) rfl rfl (show (0 : Int) ≤ 14 from by decide) (show (0 : Int) ≤ 0 from by decide) (show (0 : Int) ≤ 126 from by decide) (show (14 + 126 : Int) ≤ 140 from by decide) (show (0 + 126 : Int) ≤ 140 from by decide) (go_aload_n (eD DX1_keep 12 rfl) rfl rfl (go_bipush (eD DX1_keep 13 rfl) (by decide) (go_putI (kz := 1) (eD DX1_keep 14 rfl) fX1_15 (by decide) rfl rfl (fun q h => by cases h; exact ⟨rfl, rfl⟩) rfl (go_aload_n (eD DX1_keep 15 rfl) rfl rfl (go_getI (kz := 1) (eD DX1_keep 16 rfl) fX1_15 (by decide) rfl rfl rfl (go_bipush (eD DX1_keep 17 rfl) (by decide) (go_imul (eD DX1_keep 18 rfl) (go_istore_n (eD DX1_keep 19 rfl) rfl (by decide) (go_iload_n (eD DX1_keep 20 rfl) rfl rfl (go_if_ltF (tgt := 97) (eD DX1_keep 21 rfl) rfl (show eI (9 * 14) from by decide) (show ¬ (((9 * 14) : Int) < 0) from by decide) (?_))))))))))))))))))
    refine go_iload_n (eD DX1_keep 22 rfl) rfl rfl (go_bipush (eD DX1_keep 23 rfl) (by decide) (go_iadd (eD DX1_keep 24 rfl) (go_aload_n (eD DX1_keep 25 rfl) rfl rfl (go_getR (t := 7) (eD DX1_keep 26 rfl) fX1_11 (by decide) rfl ⟨rfl, rfl⟩ (go_alen (n := 140) (eD DX1_keep 27 rfl) (by decide) rfl (by decide) (go_icmp_gtF (tgt := 97) (eD DX1_keep 28 rfl) rfl (show eI ((9 * 14) + 14) from by decide) (by decide) (show ¬ ((140 : Int) < ((9 * 14) + 14)) from by decide) (?_)))))))
    simp only [if_neg h1]
    exact go_aload_n (eD DX1_keep 29 rfl) rfl rfl (go_getR (t := 3) (eD DX1_keep 30 rfl) fX1_25 (by decide) rfl ⟨rfl, rfl⟩ (go_iconst (eD DX1_keep 31 rfl) (go_aload_n (eD DX1_keep 32 rfl) rfl rfl (go_getR (t := 7) (eD DX1_keep 33 rfl) fX1_11 (by decide) rfl ⟨rfl, rfl⟩ (go_iload_n (eD DX1_keep 34 rfl) rfl rfl (go_bipush (eD DX1_keep 35 rfl) (by decide) (go_copy (na := 10) (nb := 140) (eD DX1_keep 36 rfl) (eMem 4 153 rfl rfl) ⟨Nat.le_of_ble_eq_true rfl, Nat.le_of_ble_eq_true rfl⟩ (by decide) (by decide) rfl rfl (show (0 : Int) ≤ 0 from by decide) (show (0 : Int) ≤ (9 * 14) from by decide) (show (0 : Int) ≤ 10 from by decide) (show (0 + 10 : Int) ≤ 10 from by decide) (show ((9 * 14) + 10 : Int) ≤ 140 from by decide) (go_aload_n (eD DX1_keep 37 rfl) rfl rfl (go_getR (t := 4) (eD DX1_keep 38 rfl) fX1_30 (by decide) rfl ⟨rfl, rfl⟩ (go_iconst (eD DX1_keep 39 rfl) (go_aload_n (eD DX1_keep 40 rfl) rfl rfl (go_getR (t := 7) (eD DX1_keep 41 rfl) fX1_11 (by decide) rfl ⟨rfl, rfl⟩ (go_iload_n (eD DX1_keep 42 rfl) rfl rfl (go_bipush (eD DX1_keep 43 rfl) (by decide) (go_iadd (eD DX1_keep 44 rfl) (go_iconst (eD DX1_keep 45 rfl) (go_copy (na := 4) (nb := 140) (eD DX1_keep 46 rfl) (eMem 4 153 rfl rfl) ⟨Nat.le_of_ble_eq_true rfl, Nat.le_of_ble_eq_true rfl⟩ (by decide) (by decide) rfl rfl (show (0 : Int) ≤ 0 from by decide) (show (0 : Int) ≤ ((9 * 14) + 10) from by decide) (show (0 : Int) ≤ 4 from by decide) (show (0 + 4 : Int) ≤ 4 from by decide) (show ((9 * 14) + 10) + 4 ≤ 140 from by decide) (go_aload_n (eD DX1_keep 47 rfl) rfl rfl (go_dup (eD DX1_keep 48 rfl) (by decide) (go_getI (kz := 1) (eD DX1_keep 49 rfl) fX1_15 (by decide) rfl rfl rfl (go_iconst (eD DX1_keep 50 rfl) (go_iadd (eD DX1_keep 51 rfl) (go_putI (kz := 1) (eD DX1_keep 52 rfl) fX1_15 (by decide) rfl rfl (fun q h => by cases h; exact ⟨rfl, rfl⟩) rfl (go_vret (eD DX1_keep 53 rfl) rfl))))))))))))))))))))))))
def wX1_bringBack (w : eW) : eW := if (((w 6 1) - 1) * 14) < 0 then w else (if 140 < ((((w 6 1) - 1) * 14) + 14) then w else (eU (eCpy (eCpy w 7 3 (((w 6 1) - 1) * 14) 0 10) 7 4 ((((w 6 1) - 1) * 14) + 10) 0 4) 6 1 (((eCpy (eCpy w 7 3 (((w 6 1) - 1) * 14) 0 10) 7 4 ((((w 6 1) - 1) * 14) + 10) 0 4) 6 1) - 1)))
set_option maxRecDepth 20000 in
theorem zX1_bringBack (w : eW) (hp : 1 ≤ w 6 1 ∧ w 6 1 ≤ 10) : Cal mX1_bringBack [eR 6, eR 2] w none (wX1_bringBack w) := by
  unfold wX1_bringBack
  refine Cal.of (by decide +kernel) (Nat.le_of_ble_eq_true rfl) ?_
  show Go _ 0 [(0, eR 6), (1, eR 2)] [] _ _ _
  refine go_aload_n (eD DX1_bringBack 0 rfl) rfl rfl (go_getI (kz := 1) (eD DX1_bringBack 1 rfl) fX1_15 (by decide) rfl rfl rfl (go_iconst (eD DX1_bringBack 2 rfl) (go_isub (eD DX1_bringBack 3 rfl) (go_bipush (eD DX1_bringBack 4 rfl) (by decide) (go_imul (eD DX1_bringBack 5 rfl) (go_istore_n (eD DX1_bringBack 6 rfl) rfl (by decide) (go_iload_n (eD DX1_bringBack 7 rfl) rfl rfl (?_))))))))
  by_cases h1 : (((w 6 1) - 1) * 14) < 0
  · refine go_if_ltT (tgt := 68) (eD DX1_bringBack 8 rfl) rfl (show eI (((w 6 1) - 1) * 14) from by omega) h1 ?_
    simp only [if_pos h1]
    exact go_vret (eD DX1_bringBack 40 rfl) rfl
  · refine go_if_ltF (tgt := 68) (eD DX1_bringBack 8 rfl) rfl (show eI (((w 6 1) - 1) * 14) from by omega) h1 ?_
    refine go_iload_n (eD DX1_bringBack 9 rfl) rfl rfl (go_bipush (eD DX1_bringBack 10 rfl) (by decide) (go_iadd (eD DX1_bringBack 11 rfl) (go_aload_n (eD DX1_bringBack 12 rfl) rfl rfl (go_getR (t := 7) (eD DX1_bringBack 13 rfl) fX1_11 (by decide) rfl ⟨rfl, rfl⟩ (go_alen (n := 140) (eD DX1_bringBack 14 rfl) (by decide) rfl (by decide) (?_))))))
    by_cases h2 : 140 < ((((w 6 1) - 1) * 14) + 14)
    · refine go_icmp_gtT (tgt := 68) (eD DX1_bringBack 15 rfl) rfl (show eI ((((w 6 1) - 1) * 14) + 14) from by omega) (by decide) h2 ?_
      simp only [if_neg h1, if_pos h2]
      exact go_vret (eD DX1_bringBack 40 rfl) rfl
    · refine go_icmp_gtF (tgt := 68) (eD DX1_bringBack 15 rfl) rfl (show eI ((((w 6 1) - 1) * 14) + 14) from by omega) (by decide) h2 ?_
      simp only [if_neg h1, if_neg h2]
      exact go_aload_n (eD DX1_bringBack 16 rfl) rfl rfl (go_getR (t := 7) (eD DX1_bringBack 17 rfl) fX1_11 (by decide) rfl ⟨rfl, rfl⟩ (go_iload_n (eD DX1_bringBack 18 rfl) rfl rfl (go_aload_n (eD DX1_bringBack 19 rfl) rfl rfl (go_getR (t := 3) (eD DX1_bringBack 20 rfl) fX1_25 (by decide) rfl ⟨rfl, rfl⟩ (go_iconst (eD DX1_bringBack 21 rfl) (go_bipush (eD DX1_bringBack 22 rfl) (by decide) (go_copy (na := 140) (nb := 10) (eD DX1_bringBack 23 rfl) (eMem 4 153 rfl rfl) ⟨Nat.le_of_ble_eq_true rfl, Nat.le_of_ble_eq_true rfl⟩ (by decide) (by decide) rfl rfl (show 0 ≤ (((w 6 1) - 1) * 14) from by omega) (show (0 : Int) ≤ 0 from by decide) (show (0 : Int) ≤ 10 from by decide) (show (((w 6 1) - 1) * 14) + 10 ≤ 140 from by omega) (show (0 + 10 : Int) ≤ 10 from by decide) (go_aload_n (eD DX1_bringBack 24 rfl) rfl rfl (go_getR (t := 7) (eD DX1_bringBack 25 rfl) fX1_11 (by decide) rfl ⟨rfl, rfl⟩ (go_iload_n (eD DX1_bringBack 26 rfl) rfl rfl (go_bipush (eD DX1_bringBack 27 rfl) (by decide) (go_iadd (eD DX1_bringBack 28 rfl) (go_aload_n (eD DX1_bringBack 29 rfl) rfl rfl (go_getR (t := 4) (eD DX1_bringBack 30 rfl) fX1_30 (by decide) rfl ⟨rfl, rfl⟩ (go_iconst (eD DX1_bringBack 31 rfl) (go_iconst (eD DX1_bringBack 32 rfl) (go_copy (na := 140) (nb := 4) (eD DX1_bringBack 33 rfl) (eMem 4 153 rfl rfl) ⟨Nat.le_of_ble_eq_true rfl, Nat.le_of_ble_eq_true rfl⟩ (by decide) (by decide) rfl rfl (show 0 ≤ ((((w 6 1) - 1) * 14) + 10) from by omega) (show (0 : Int) ≤ 0 from by decide) (show (0 : Int) ≤ 4 from by decide) (show ((((w 6 1) - 1) * 14) + 10) + 4 ≤ 140 from by omega) (show (0 + 4 : Int) ≤ 4 from by decide) (go_aload_n (eD DX1_bringBack 34 rfl) rfl rfl (go_dup (eD DX1_bringBack 35 rfl) (by decide) (go_getI (kz := 1) (eD DX1_bringBack 36 rfl) fX1_15 (by decide) rfl rfl rfl (go_iconst (eD DX1_bringBack 37 rfl) (go_isub (eD DX1_bringBack 38 rfl) (go_putI (kz := 1) (eD DX1_bringBack 39 rfl) fX1_15 (by decide) rfl rfl (fun q h => by cases h; exact ⟨rfl, rfl⟩) rfl (go_vret (eD DX1_bringBack 40 rfl) rfl))))))))))))))))))))))))
