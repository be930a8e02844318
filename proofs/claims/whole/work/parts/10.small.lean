def rX8_in (w : eW) (v low high : Int) : Int := if v < low then 0 else (if high < v then 0 else 1)
set_option maxRecDepth 20000 in
theorem zX8_in (w : eW) (v low high : Int) (hv : eI v) (hlow : eI low) (hhigh : eI high) : Cal mX8_in [(0, v), (0, low), (0, high)] w (some (0, rX8_in w v low high)) w := by
  unfold rX8_in
  refine Cal.of (by decide +kernel) (Nat.le_of_ble_eq_true rfl) ?_
  show Go _ 0 [(0, (0, v)), (1, (0, low)), (2, (0, high))] [] _ _ _
  refine go_iload_n (eD DX8_in 0 rfl) rfl rfl (go_iload_n (eD DX8_in 1 rfl) rfl rfl (?_))
  by_cases h1 : v < low
  · refine go_icmp_ltT (tgt := 14) (eD DX8_in 2 rfl) rfl (by omega) (by omega) h1 ?_
    simp only [if_pos h1]
    exact go_iconst (eD DX8_in 8 rfl) (go_zret (eD DX8_in 9 rfl) rfl (by decide))
  · refine go_icmp_ltF (tgt := 14) (eD DX8_in 2 rfl) rfl (by omega) (by omega) h1 ?_
    refine go_iload_n (eD DX8_in 3 rfl) rfl rfl (go_iload_n (eD DX8_in 4 rfl) rfl rfl (?_))
    by_cases h2 : high < v
    · refine go_icmp_gtT (tgt := 14) (eD DX8_in 5 rfl) rfl (by omega) (by omega) h2 ?_
      simp only [if_neg h1, if_pos h2]
      exact go_iconst (eD DX8_in 8 rfl) (go_zret (eD DX8_in 9 rfl) rfl (by decide))
    · refine go_icmp_gtF (tgt := 14) (eD DX8_in 5 rfl) rfl (by omega) (by omega) h2 ?_
      simp only [if_neg h1, if_neg h2]
      exact go_iconst (eD DX8_in 6 rfl) (go_goto (tgt := 15) (eD DX8_in 7 rfl) rfl (go_zret (eD DX8_in 9 rfl) rfl (by decide)))
def hB2 (w : eW) : Prop := 0 ≤ w 2 0 ∧ w 2 0 ≤ 14 ∧ 0 ≤ w 2 1 ∧ w 2 1 ≤ 10 ∧ 0 ≤ w 2 2 ∧ w 2 2 ≤ 8 ∧ ∀ i, 0 ≤ w 3 i ∧ w 3 i < 16384
def rX0_hasCell (w : eW) (x y : Int) : Int := if x < 0 then 0 else (if x < (w 2 0) then (if y < 0 then 0 else (if y < (w 2 1) then 1 else 0)) else 0)
set_option maxRecDepth 20000 in
theorem zX0_hasCell (w : eW) (x y : Int) (hx : eI x) (hy : eI y) (hB : hB2 w) : Cal mX0_hasCell [eR 2, (0, x), (0, y)] w (some (0, rX0_hasCell w x y)) w := by
  obtain ⟨b1, b2, b3, b4, b5, b6, b7⟩ := id hB
  unfold rX0_hasCell
  refine Cal.of (by decide +kernel) (Nat.le_of_ble_eq_true rfl) ?_
  show Go _ 0 [(0, eR 2), (1, (0, x)), (2, (0, y))] [] _ _ _
  refine go_iload_n (eD DX0_hasCell 0 rfl) rfl rfl (?_)
  by_cases h1 : x < 0
  · refine go_if_ltT (tgt := 28) (eD DX0_hasCell 1 rfl) rfl (by omega) h1 ?_
    simp only [if_pos h1]
    exact go_iconst (eD DX0_hasCell 14 rfl) (go_zret (eD DX0_hasCell 15 rfl) rfl (by decide))
  · refine go_if_ltF (tgt := 28) (eD DX0_hasCell 1 rfl) rfl (by omega) h1 ?_
    refine go_iload_n (eD DX0_hasCell 2 rfl) rfl rfl (go_aload_n (eD DX0_hasCell 3 rfl) rfl rfl (go_getI (kz := 0) (eD DX0_hasCell 4 rfl) fX0_9 (by decide) rfl rfl rfl (?_)))
    by_cases h2 : x < (w 2 0)
    · refine go_icmp_geF (tgt := 28) (eD DX0_hasCell 5 rfl) rfl (by omega) (by omega) (Int.not_le.mpr h2) ?_
      refine go_iload_n (eD DX0_hasCell 6 rfl) rfl rfl (?_)
      by_cases h3 : y < 0
      · refine go_if_ltT (tgt := 28) (eD DX0_hasCell 7 rfl) rfl (by omega) h3 ?_
        simp only [if_neg h1, if_pos h2, if_pos h3]
        exact go_iconst (eD DX0_hasCell 14 rfl) (go_zret (eD DX0_hasCell 15 rfl) rfl (by decide))
      · refine go_if_ltF (tgt := 28) (eD DX0_hasCell 7 rfl) rfl (by omega) h3 ?_
        refine go_iload_n (eD DX0_hasCell 8 rfl) rfl rfl (go_aload_n (eD DX0_hasCell 9 rfl) rfl rfl (go_getI (kz := 1) (eD DX0_hasCell 10 rfl) fX0_15 (by decide) rfl rfl rfl (?_)))
        by_cases h4 : y < (w 2 1)
        · refine go_icmp_geF (tgt := 28) (eD DX0_hasCell 11 rfl) rfl (by omega) (by omega) (Int.not_le.mpr h4) ?_
          simp only [if_neg h1, if_pos h2, if_neg h3, if_pos h4]
          exact go_iconst (eD DX0_hasCell 12 rfl) (go_goto (tgt := 29) (eD DX0_hasCell 13 rfl) rfl (go_zret (eD DX0_hasCell 15 rfl) rfl (by decide)))
        · refine go_icmp_geT (tgt := 28) (eD DX0_hasCell 11 rfl) rfl (by omega) (by omega) (Int.not_lt.mp h4) ?_
          simp only [if_neg h1, if_pos h2, if_neg h3, if_neg h4]
          exact go_iconst (eD DX0_hasCell 14 rfl) (go_zret (eD DX0_hasCell 15 rfl) rfl (by decide))
    · refine go_icmp_geT (tgt := 28) (eD DX0_hasCell 5 rfl) rfl (by omega) (by omega) (Int.not_lt.mp h2) ?_
      simp only [if_neg h1, if_neg h2]
      exact go_iconst (eD DX0_hasCell 14 rfl) (go_zret (eD DX0_hasCell 15 rfl) rfl (by decide))
def rX0_lineAt (w : eW) (y : Int) : Int := if y < 0 then 0 else (if y < (w 2 1) then (if y < 10 then (w 3 y) else 0) else 0)
set_option maxRecDepth 20000 in
theorem zX0_lineAt (w : eW) (y : Int) (hy : eI y) (hB : hB2 w) : Cal mX0_lineAt [eR 2, (0, y)] w (some (0, rX0_lineAt w y)) w := by
  obtain ⟨b1, b2, b3, b4, b5, b6, b7⟩ := id hB
  unfold rX0_lineAt
  refine Cal.of (by decide +kernel) (Nat.le_of_ble_eq_true rfl) ?_
  show Go _ 0 [(0, eR 2), (1, (0, y))] [] _ _ _
  refine go_iload_n (eD DX0_lineAt 0 rfl) rfl rfl (?_)
  by_cases h1 : y < 0
  · refine go_if_ltT (tgt := 30) (eD DX0_lineAt 1 rfl) rfl (by omega) h1 ?_
    simp only [if_pos h1]
    exact go_iconst (eD DX0_lineAt 16 rfl) (go_iret (eD DX0_lineAt 17 rfl) rfl)
  · refine go_if_ltF (tgt := 30) (eD DX0_lineAt 1 rfl) rfl (by omega) h1 ?_
    refine go_iload_n (eD DX0_lineAt 2 rfl) rfl rfl (go_aload_n (eD DX0_lineAt 3 rfl) rfl rfl (go_getI (kz := 1) (eD DX0_lineAt 4 rfl) fX0_15 (by decide) rfl rfl rfl (?_)))
    by_cases h2 : y < (w 2 1)
    · refine go_icmp_geF (tgt := 30) (eD DX0_lineAt 5 rfl) rfl (by omega) (by omega) (Int.not_le.mpr h2) ?_
      refine go_iload_n (eD DX0_lineAt 6 rfl) rfl rfl (go_aload_n (eD DX0_lineAt 7 rfl) rfl rfl (go_getR (t := 3) (eD DX0_lineAt 8 rfl) fX0_21 (by decide) rfl ⟨rfl, rfl⟩ (go_alen (n := 10) (eD DX0_lineAt 9 rfl) (by decide) rfl (by decide) (?_))))
      by_cases h3 : y < 10
      · refine go_icmp_geF (tgt := 30) (eD DX0_lineAt 10 rfl) rfl (by omega) (by decide) (Int.not_le.mpr h3) ?_
        simp only [if_neg h1, if_pos h2, if_pos h3]
        exact go_aload_n (eD DX0_lineAt 11 rfl) rfl rfl (go_getR (t := 3) (eD DX0_lineAt 12 rfl) fX0_21 (by decide) rfl ⟨rfl, rfl⟩ (go_iload_n (eD DX0_lineAt 13 rfl) rfl rfl (go_iald (n := 10) (eD DX0_lineAt 14 rfl) (by decide) rfl (by omega) (go_goto (tgt := 31) (eD DX0_lineAt 15 rfl) rfl (go_iret (eD DX0_lineAt 17 rfl) rfl)))))
      · refine go_icmp_geT (tgt := 30) (eD DX0_lineAt 10 rfl) rfl (by omega) (by decide) (Int.not_lt.mp h3) ?_
        simp only [if_neg h1, if_pos h2, if_neg h3]
        exact go_iconst (eD DX0_lineAt 16 rfl) (go_iret (eD DX0_lineAt 17 rfl) rfl)
    · refine go_icmp_geT (tgt := 30) (eD DX0_lineAt 5 rfl) rfl (by omega) (by omega) (Int.not_lt.mp h2) ?_
      simp only [if_neg h1, if_neg h2]
      exact go_iconst (eD DX0_lineAt 16 rfl) (go_iret (eD DX0_lineAt 17 rfl) rfl)
def rX0_isInside (w : eW) (x y : Int) : Int := if x < 0 then 0 else (if x < (w 2 0) then (if y < 0 then 0 else (if y < (w 2 1) then (if y < 10 then (if (eAnd ((w 3 y) / 2 ^ (x).toNat) 1) = 1 then 1 else 0) else (if (eAnd (0 / 2 ^ (x).toNat) 1) = 1 then 1 else 0)) else 0)) else 0)
set_option maxRecDepth 20000 in
theorem zX0_isInside (w : eW) (x y : Int) (hx : eI x) (hy : eI y) (hB : hB2 w) : Cal mX0_isInside [eR 2, (0, x), (0, y)] w (some (0, rX0_isInside w x y)) w := by
  obtain ⟨b1, b2, b3, b4, b5, b6, b7⟩ := id hB
  have b8 := b7 y
  have e8 : eI (eAnd (w 3 y / 2 ^ x.toNat) 1) := sorry
  unfold rX0_isInside
  refine Cal.of (by decide +kernel) (Nat.le_of_ble_eq_true rfl) ?_
  show Go _ 0 [(0, eR 2), (1, (0, x)), (2, (0, y))] [] _ _ _
  refine go_aload_n (eD DX0_isInside 0 rfl) rfl rfl (go_iload_n (eD DX0_isInside 1 rfl) rfl rfl (go_iload_n (eD DX0_isInside 2 rfl) rfl rfl (?_)))
  by_cases h1 : x < 0
  · refine go_callV (ci := 0) [(0, x), (0, y)] (eD DX0_isInside 3 rfl) ⟨eMem 3 9 rfl rfl, sX0_hasCell⟩ ⟨Nat.le_of_ble_eq_true rfl, Nat.le_of_ble_eq_true rfl⟩ (by decide) ⟨rfl, by decide, _, rfl, rfl⟩ rfl rfl (Nat.le_of_ble_eq_true rfl) (Cal.as (zX0_hasCell w x y (by omega) (by omega) (by assumption)) (r2 := some (0, 0)) (w2 := w) (by simp only [rX0_hasCell, if_pos h1]) rfl) (?_)
    refine go_if_eqT (tgt := 26) (eD DX0_isInside 4 rfl) rfl (by decide) (by decide) (?_)
    simp only [if_pos h1]
    exact go_iconst (eD DX0_isInside 16 rfl) (go_zret (eD DX0_isInside 17 rfl) rfl (by decide))
  · by_cases h2 : x < (w 2 0)
    · by_cases h3 : y < 0
      · refine go_callV (ci := 0) [(0, x), (0, y)] (eD DX0_isInside 3 rfl) ⟨eMem 3 9 rfl rfl, sX0_hasCell⟩ ⟨Nat.le_of_ble_eq_true rfl, Nat.le_of_ble_eq_true rfl⟩ (by decide) ⟨rfl, by decide, _, rfl, rfl⟩ rfl rfl (Nat.le_of_ble_eq_true rfl) (Cal.as (zX0_hasCell w x y (by omega) (by omega) (by assumption)) (r2 := some (0, 0)) (w2 := w) (by simp only [rX0_hasCell, if_neg h1, if_pos h2, if_pos h3]) rfl) (?_)
        refine go_if_eqT (tgt := 26) (eD DX0_isInside 4 rfl) rfl (by decide) (by decide) (?_)
        simp only [if_neg h1, if_pos h2, if_pos h3]
        exact go_iconst (eD DX0_isInside 16 rfl) (go_zret (eD DX0_isInside 17 rfl) rfl (by decide))
      · by_cases h4 : y < (w 2 1)
        · refine go_callV (ci := 0) [(0, x), (0, y)] (eD DX0_isInside 3 rfl) ⟨eMem 3 9 rfl rfl, sX0_hasCell⟩ ⟨Nat.le_of_ble_eq_true rfl, Nat.le_of_ble_eq_true rfl⟩ (by decide) ⟨rfl, by decide, _, rfl, rfl⟩ rfl rfl (Nat.le_of_ble_eq_true rfl) (Cal.as (zX0_hasCell w x y (by omega) (by omega) (by assumption)) (r2 := some (0, 1)) (w2 := w) (by simp only [rX0_hasCell, if_neg h1, if_pos h2, if_neg h3, if_pos h4]) rfl) (?_)
          refine go_if_eqF (tgt := 26) (eD DX0_isInside 4 rfl) rfl (by decide) (by decide) (?_)
          refine go_aload_n (eD DX0_isInside 5 rfl) rfl rfl (go_iload_n (eD DX0_isInside 6 rfl) rfl rfl (?_))
          by_cases h5 : y < 10
          · refine go_callV (ci := 0) [(0, y)] (eD DX0_isInside 7 rfl) ⟨eMem 2 190 rfl rfl, sX0_lineAt⟩ ⟨Nat.le_of_ble_eq_true rfl, Nat.le_of_ble_eq_true rfl⟩ (by decide) ⟨rfl, by decide, _, rfl, rfl⟩ rfl rfl (Nat.le_of_ble_eq_true rfl) (Cal.as (zX0_lineAt w y (by omega) (by assumption)) (r2 := some (0, w 3 y)) (w2 := w) (by simp only [rX0_lineAt, if_neg h1, if_pos h2, if_neg h3, if_pos h4, if_pos h5]) rfl) (?_)
            refine go_iload_n (eD DX0_isInside 8 rfl) rfl rfl (go_ishr (eD DX0_isInside 9 rfl) (by omega) (by omega) (go_iconst (eD DX0_isInside 10 rfl) (go_iand (eD DX0_isInside 11 rfl) (go_iconst (eD DX0_isInside 12 rfl) (?_)))))
            by_cases h6 : (eAnd ((w 3 y) / 2 ^ (x).toNat) 1) = 1
            · refine go_icmp_neF (tgt := 26) (eD DX0_isInside 13 rfl) rfl (by omega) (by decide) (not_not_intro h6) ?_
              simp only [if_neg h1, if_pos h2, if_neg h3, if_pos h4, if_pos h5, if_pos h6]
              exact go_iconst (eD DX0_isInside 14 rfl) (go_goto (tgt := 27) (eD DX0_isInside 15 rfl) rfl (go_zret (eD DX0_isInside 17 rfl) rfl (by decide)))
            · refine go_icmp_neT (tgt := 26) (eD DX0_isInside 13 rfl) rfl (by omega) (by decide) h6 ?_
              simp only [if_neg h1, if_pos h2, if_neg h3, if_pos h4, if_pos h5, if_neg h6]
              exact go_iconst (eD DX0_isInside 16 rfl) (go_zret (eD DX0_isInside 17 rfl) rfl (by decide))
          · refine go_callV (ci := 0) [(0, y)] (eD DX0_isInside 7 rfl) ⟨eMem 2 190 rfl rfl, sX0_lineAt⟩ ⟨Nat.le_of_ble_eq_true rfl, Nat.le_of_ble_eq_true rfl⟩ (by decide) ⟨rfl, by decide, _, rfl, rfl⟩ rfl rfl (Nat.le_of_ble_eq_true rfl) (Cal.as (zX0_lineAt w y (by omega) (by assumption)) (r2 := some (0, 0)) (w2 := w) (by simp only [rX0_lineAt, if_neg h1, if_pos h2, if_neg h3, if_pos h4, if_neg h5]) rfl) (?_)
            refine go_iload_n (eD DX0_isInside 8 rfl) rfl rfl (go_ishr (eD DX0_isInside 9 rfl) (by decide) (by omega) (go_iconst (eD DX0_isInside 10 rfl) (go_iand (eD DX0_isInside 11 rfl) (go_iconst (eD DX0_isInside 12 rfl) (?_)))))
            by_cases h6 : (eAnd (0 / 2 ^ (x).toNat) 1) = 1
            · refine go_icmp_neF (tgt := 26) (eD DX0_isInside 13 rfl) rfl (by omega) (by decide) (not_not_intro h6) ?_
              simp only [if_neg h1, if_pos h2, if_neg h3, if_pos h4, if_neg h5, if_pos h6]
              exact go_iconst (eD DX0_isInside 14 rfl) (go_goto (tgt := 27) (eD DX0_isInside 15 rfl) rfl (go_zret (eD DX0_isInside 17 rfl) rfl (by decide)))
            · refine go_icmp_neT (tgt := 26) (eD DX0_isInside 13 rfl) rfl (by omega) (by decide) h6 ?_
              simp only [if_neg h1, if_pos h2, if_neg h3, if_pos h4, if_neg h5, if_neg h6]
              exact go_iconst (eD DX0_isInside 16 rfl) (go_zret (eD DX0_isInside 17 rfl) rfl (by decide))
        · refine go_callV (ci := 0) [(0, x), (0, y)] (eD DX0_isInside 3 rfl) ⟨eMem 3 9 rfl rfl, sX0_hasCell⟩ ⟨Nat.le_of_ble_eq_true rfl, Nat.le_of_ble_eq_true rfl⟩ (by decide) ⟨rfl, by decide, _, rfl, rfl⟩ rfl rfl (Nat.le_of_ble_eq_true rfl) (Cal.as (zX0_hasCell w x y (by omega) (by omega) (by assumption)) (r2 := some (0, 0)) (w2 := w) (by simp only [rX0_hasCell, if_neg h1, if_pos h2, if_neg h3, if_neg h4]) rfl) (?_)
          refine go_if_eqT (tgt := 26) (eD DX0_isInside 4 rfl) rfl (by decide) (by decide) (?_)
          simp only [if_neg h1, if_pos h2, if_neg h3, if_neg h4]
          exact go_iconst (eD DX0_isInside 16 rfl) (go_zret (eD DX0_isInside 17 rfl) rfl (by decide))
    · refine go_callV (ci := 0) [(0, x), (0, y)] (eD DX0_isInside 3 rfl) ⟨eMem 3 9 rfl rfl, sX0_hasCell⟩ ⟨Nat.le_of_ble_eq_true rfl, Nat.le_of_ble_eq_true rfl⟩ (by decide) ⟨rfl, by decide, _, rfl, rfl⟩ rfl rfl (Nat.le_of_ble_eq_true rfl) (Cal.as (zX0_hasCell w x y (by omega) (by omega) (by assumption)) (r2 := some (0, 0)) (w2 := w) (by simp only [rX0_hasCell, if_neg h1, if_neg h2]) rfl) (?_)
      refine go_if_eqT (tgt := 26) (eD DX0_isInside 4 rfl) rfl (by decide) (by decide) (?_)
      simp only [if_neg h1, if_neg h2]
      exact go_iconst (eD DX0_isInside 16 rfl) (go_zret (eD DX0_isInside 17 rfl) rfl (by decide))
def rX8_besideX (w : eW) (x side : Int) : Int := if side = 1 then (x + 1) else (if side = 3 then (x - 1) else x)
set_option maxRecDepth 20000 in
theorem zX8_besideX (w : eW) (x side : Int) (hx : eI x) (hside : eI side) : Cal mX8_besideX [(0, x), (0, side)] w (some (0, rX8_besideX w x side)) w := by
  unfold rX8_besideX
  refine Cal.of (by decide +kernel) (Nat.le_of_ble_eq_true rfl) ?_
  show Go _ 0 [(0, (0, x)), (1, (0, side))] [] _ _ _
  refine go_iload_n (eD DX8_besideX 0 rfl) rfl rfl (go_iconst (eD DX8_besideX 1 rfl) (?_))
  by_cases h1 : side = 1
  · refine go_icmp_neF (tgt := 11) (eD DX8_besideX 2 rfl) rfl (by omega) (by decide) (not_not_intro h1) ?_
    simp only [if_pos h1]
    exact go_iload_n (eD DX8_besideX 3 rfl) rfl rfl (go_iconst (eD DX8_besideX 4 rfl) (go_iadd (eD DX8_besideX 5 rfl) (go_goto (tgt := 23) (eD DX8_besideX 6 rfl) rfl (go_iret (eD DX8_besideX 15 rfl) rfl))))
  · refine go_icmp_neT (tgt := 11) (eD DX8_besideX 2 rfl) rfl (by omega) (by decide) h1 ?_
    refine go_iload_n (eD DX8_besideX 7 rfl) rfl rfl (go_iconst (eD DX8_besideX 8 rfl) (?_))
    by_cases h2 : side = 3
    · refine go_icmp_neF (tgt := 22) (eD DX8_besideX 9 rfl) rfl (by omega) (by decide) (not_not_intro h2) ?_
      simp only [if_neg h1, if_pos h2]
      exact go_iload_n (eD DX8_besideX 10 rfl) rfl rfl (go_iconst (eD DX8_besideX 11 rfl) (go_isub (eD DX8_besideX 12 rfl) (go_goto (tgt := 23) (eD DX8_besideX 13 rfl) rfl (go_iret (eD DX8_besideX 15 rfl) rfl))))
    · refine go_icmp_neT (tgt := 22) (eD DX8_besideX 9 rfl) rfl (by omega) (by decide) h2 ?_
      simp only [if_neg h1, if_neg h2]
      exact go_iload_n (eD DX8_besideX 14 rfl) rfl rfl (go_iret (eD DX8_besideX 15 rfl) rfl)
def rX8_refused (w : eW) (why : Int) : Int := (-1)
def wX8_refused (w : eW) (why : Int) : eW := (eU (eU w 33 1 why) 33 2 (-1))
set_option maxRecDepth 20000 in
theorem zX8_refused (w : eW) (why : Int) (hwhy : eI why) : Cal mX8_refused [eR 33, (0, why)] w (some (0, rX8_refused w why)) (wX8_refused w why) := by
  unfold rX8_refused wX8_refused
  refine Cal.of (by decide +kernel) (Nat.le_of_ble_eq_true rfl) ?_
  show Go _ 0 [(0, eR 33), (1, (0, why))] [] _ _ _
  exact go_aload_n (eD DX8_refused 0 rfl) rfl rfl (go_iload_n (eD DX8_refused 1 rfl) rfl rfl (go_putI (kz := 1) (eD DX8_refused 2 rfl) fX8_98 (by decide) rfl rfl (fun q h => by cases h; exact ⟨rfl, rfl⟩) rfl (go_aload_n (eD DX8_refused 3 rfl) rfl rfl (go_iconst (eD DX8_refused 4 rfl) (go_putI (kz := 2) (eD DX8_refused 5 rfl) fX8_9 (by decide) rfl rfl (fun q h => by cases h; exact ⟨rfl, rfl⟩) rfl (go_iconst (eD DX8_refused 6 rfl) (go_iret (eD DX8_refused 7 rfl) rfl)))))))
def rX8_good (w : eW) (v : Int) : Int := v
def wX8_good (w : eW) (v : Int) : eW := (eU (eU w 33 1 0) 33 2 (-1))
set_option maxRecDepth 20000 in
theorem zX8_good (w : eW) (v : Int) (hv : eI v) : Cal mX8_good [eR 33, (0, v)] w (some (0, rX8_good w v)) (wX8_good w v) := by
  unfold rX8_good wX8_good
  refine Cal.of (by decide +kernel) (Nat.le_of_ble_eq_true rfl) ?_
  show Go _ 0 [(0, eR 33), (1, (0, v))] [] _ _ _
  exact go_aload_n (eD DX8_good 0 rfl) rfl rfl (go_iconst (eD DX8_good 1 rfl) (go_putI (kz := 1) (eD DX8_good 2 rfl) fX8_98 (by decide) rfl rfl (fun q h => by cases h; exact ⟨rfl, rfl⟩) rfl (go_aload_n (eD DX8_good 3 rfl) rfl rfl (go_iconst (eD DX8_good 4 rfl) (go_putI (kz := 2) (eD DX8_good 5 rfl) fX8_9 (by decide) rfl rfl (fun q h => by cases h; exact ⟨rfl, rfl⟩) rfl (go_iload_n (eD DX8_good 6 rfl) rfl rfl (go_iret (eD DX8_good 7 rfl) rfl)))))))
