/-! bounds: the class's house (2, 3, 4, 5), the model's (33, 38, 40) -/
def HB (w : eW) : Prop := (0 ≤ w 2 0 ∧ w 2 0 ≤ 14 ∧ 0 ≤ w 2 1 ∧ w 2 1 ≤ 10 ∧ 0 ≤ w 2 2 ∧ w 2 2 ≤ 8) ∧ (∀ i, 0 ≤ i → i < 10 → 0 ≤ w 3 i ∧ w 3 i < 16384) ∧ (∀ i, 0 ≤ i → i < 4 → 0 ≤ w 4 i ∧ w 4 i ≤ 9) ∧ ∀ i, 0 ≤ i → i < 16 → 0 ≤ w 5 i ∧ w 5 i ≤ 56
def MB (w : eW) : Prop := (0 ≤ w 33 24 ∧ w 33 24 ≤ 14 ∧ 0 ≤ w 33 25 ∧ w 33 25 ≤ 10 ∧ 0 ≤ w 33 26 ∧ w 33 26 ≤ 8 ∧ 0 ≤ w 33 27 ∧ w 33 27 ≤ 10 ∧ 0 ≤ w 33 28 ∧ w 33 28 ≤ 1) ∧ (∀ i, 0 ≤ i → i < 140 → 0 ≤ w 38 i ∧ w 38 i ≤ 1) ∧ (∀ i, 140 ≤ i → i < 144 → 0 ≤ w 38 i ∧ w 38 i ≤ 9) ∧ ∀ i, 0 ≤ i → i < 16 → 0 ≤ w 40 i ∧ w 40 i ≤ 56
/-- a cell is inside: of the class's house, of the model's -/
abbrev insC (w : eW) (x y : Int) : Prop := 0 ≤ x ∧ x < w 2 0 ∧ 0 ≤ y ∧ y < w 2 1 ∧ w 3 y / 2 ^ x.toNat % 2 = 1
abbrev insM (w : eW) (x y : Int) : Prop := 0 ≤ x ∧ x ≤ w 33 24 - 1 ∧ 0 ≤ y ∧ y ≤ w 33 25 - 1 ∧ w 38 (14 * y + x) = 1
theorem e_div2 {a : Int} {n : Nat} (h : 0 ≤ a ∧ a < 2147483648) : 0 ≤ a / 2 ^ n ∧ a / 2 ^ n < 2147483648 := by
  have hp : (0 : Int) < 2 ^ n := Int.pow_pos (by decide)
  refine ⟨Int.ediv_nonneg h.1 (Int.le_of_lt hp), Int.ediv_lt_of_lt_mul hp ?_⟩
  generalize (2 : Int) ^ n = P at hp
  omega
def rX0_stands (w : eW) : Int := if 0 < (w 2 0) then (if 0 < (w 2 1) then 1 else 0) else 0
set_option maxRecDepth 20000 in
theorem zX0_stands (w : eW) (hB : HB w) : Cal mX0_stands [eR 2] w (some (0, rX0_stands w)) w := by
  obtain ⟨⟨b1, b2, b3, b4, b5, b6⟩, b7, b8, b9⟩ := id hB
  unfold rX0_stands
  refine Cal.of (by decide +kernel) (Nat.le_of_ble_eq_true rfl) ?_
  show Go _ 0 [(0, eR 2)] [] _ _ _
  refine go_aload_n (eD DX0_stands 0 rfl) rfl rfl (go_getI (kz := 0) (eD DX0_stands 1 rfl) fX0_9 (by decide) rfl rfl rfl (?_))
  by_cases h1 : 0 < (w 2 0)
  · refine go_if_leF (tgt := 18) (eD DX0_stands 2 rfl) rfl (show eI (w 2 0) from by omega) (Int.not_le.mpr h1) ?_
    refine go_aload_n (eD DX0_stands 3 rfl) rfl rfl (go_getI (kz := 1) (eD DX0_stands 4 rfl) fX0_15 (by decide) rfl rfl rfl (?_))
    by_cases h2 : 0 < (w 2 1)
    · refine go_if_leF (tgt := 18) (eD DX0_stands 5 rfl) rfl (show eI (w 2 1) from by omega) (Int.not_le.mpr h2) ?_
      simp only [if_pos h1, if_pos h2]
      exact go_iconst (eD DX0_stands 6 rfl) (go_goto (tgt := 19) (eD DX0_stands 7 rfl) rfl (go_zret (eD DX0_stands 9 rfl) rfl (by decide)))
    · refine go_if_leT (tgt := 18) (eD DX0_stands 5 rfl) rfl (show eI (w 2 1) from by omega) (Int.not_lt.mp h2) ?_
      simp only [if_pos h1, if_neg h2]
      exact go_iconst (eD DX0_stands 8 rfl) (go_zret (eD DX0_stands 9 rfl) rfl (by decide))
  · refine go_if_leT (tgt := 18) (eD DX0_stands 2 rfl) rfl (show eI (w 2 0) from by omega) (Int.not_lt.mp h1) ?_
    simp only [if_neg h1]
    exact go_iconst (eD DX0_stands 8 rfl) (go_zret (eD DX0_stands 9 rfl) rfl (by decide))
theorem y_b_X0_stands (w : eW) (hB : HB w) : Cal mX0_stands [eR 2] w (some (0, if 0 < (w 2 0) ∧ 0 < (w 2 1) then 1 else 0)) w := by
  obtain ⟨⟨b1, b2, b3, b4, b5, b6⟩, b7, b8, b9⟩ := id hB
  refine Cal.as (zX0_stands w  hB) ?_ rfl
  unfold rX0_stands
  congr 2
  (repeat' split) <;> omega
def rX0_hasCell (w : eW) (x y : Int) : Int := if x < 0 then 0 else (if x < (w 2 0) then (if y < 0 then 0 else (if y < (w 2 1) then 1 else 0)) else 0)
set_option maxRecDepth 20000 in
theorem zX0_hasCell (w : eW) (x y : Int) (hx : eI x) (hy : eI y) (hB : HB w) : Cal mX0_hasCell [eR 2, (0, x), (0, y)] w (some (0, rX0_hasCell w x y)) w := by
  obtain ⟨⟨b1, b2, b3, b4, b5, b6⟩, b7, b8, b9⟩ := id hB
  unfold rX0_hasCell
  refine Cal.of (by decide +kernel) (Nat.le_of_ble_eq_true rfl) ?_
  show Go _ 0 [(0, eR 2), (1, (0, x)), (2, (0, y))] [] _ _ _
  refine go_iload_n (eD DX0_hasCell 0 rfl) rfl rfl (?_)
  by_cases h1 : x < 0
  · refine go_if_ltT (tgt := 28) (eD DX0_hasCell 1 rfl) rfl (by omega) h1 ?_
    simp only [if_pos h1]
    exact go_iconst (eD DX0_hasCell 14 rfl) (go_zret (eD DX0_hasCell 15 rfl) rfl (by decide))
  · refine go_if_ltF (tgt := 28) (eD DX0_hasCell 1 rfl) rfl (by omega) h1 ?_
    refine go_iload_n (eD DX0_hasCell 2 rfl) rfl rfl (go_aload_n (eD DX0_hasCell 3 rfl) rfl rfl (go_getI (kz := 0) (eD DX0_hasCell 4 rfl) fX0_9 (by decide) rfl rfl rfl (?_)))
    by_cases h2 : x < (w 2 0)
    · refine go_icmp_geF (tgt := 28) (eD DX0_hasCell 5 rfl) rfl (by omega) (show eI (w 2 0) from by omega) (Int.not_le.mpr h2) ?_
      refine go_iload_n (eD DX0_hasCell 6 rfl) rfl rfl (?_)
      by_cases h3 : y < 0
      · refine go_if_ltT (tgt := 28) (eD DX0_hasCell 7 rfl) rfl (by omega) h3 ?_
        simp only [if_neg h1, if_pos h2, if_pos h3]
        exact go_iconst (eD DX0_hasCell 14 rfl) (go_zret (eD DX0_hasCell 15 rfl) rfl (by decide))
      · refine go_if_ltF (tgt := 28) (eD DX0_hasCell 7 rfl) rfl (by omega) h3 ?_
        refine go_iload_n (eD DX0_hasCell 8 rfl) rfl rfl (go_aload_n (eD DX0_hasCell 9 rfl) rfl rfl (go_getI (kz := 1) (eD DX0_hasCell 10 rfl) fX0_15 (by decide) rfl rfl rfl (?_)))
        by_cases h4 : y < (w 2 1)
        · refine go_icmp_geF (tgt := 28) (eD DX0_hasCell 11 rfl) rfl (by omega) (show eI (w 2 1) from by omega) (Int.not_le.mpr h4) ?_
          simp only [if_neg h1, if_pos h2, if_neg h3, if_pos h4]
          exact go_iconst (eD DX0_hasCell 12 rfl) (go_goto (tgt := 29) (eD DX0_hasCell 13 rfl) rfl (go_zret (eD DX0_hasCell 15 rfl) rfl (by decide)))
        · refine go_icmp_geT (tgt := 28) (eD DX0_hasCell 11 rfl) rfl (by omega) (show eI (w 2 1) from by omega) (Int.not_lt.mp h4) ?_
          simp only [if_neg h1, if_pos h2, if_neg h3, if_neg h4]
          exact go_iconst (eD DX0_hasCell 14 rfl) (go_zret (eD DX0_hasCell 15 rfl) rfl (by decide))
    · refine go_icmp_geT (tgt := 28) (eD DX0_hasCell 5 rfl) rfl (by omega) (show eI (w 2 0) from by omega) (Int.not_lt.mp h2) ?_
      simp only [if_neg h1, if_neg h2]
      exact go_iconst (eD DX0_hasCell 14 rfl) (go_zret (eD DX0_hasCell 15 rfl) rfl (by decide))
theorem y_b_X0_hasCell (w : eW) (x y : Int) (hx : eI x) (hy : eI y) (hB : HB w) : Cal mX0_hasCell [eR 2, (0, x), (0, y)] w (some (0, if 0 ≤ x ∧ x < (w 2 0) ∧ 0 ≤ y ∧ y < (w 2 1) then 1 else 0)) w := by
  obtain ⟨⟨b1, b2, b3, b4, b5, b6⟩, b7, b8, b9⟩ := id hB
  refine Cal.as (zX0_hasCell w x y hx hy hB) ?_ rfl
  unfold rX0_hasCell
  congr 2
  (repeat' split) <;> omega
def rX0_lineAt (w : eW) (y : Int) : Int := if y < 0 then 0 else (if y < (w 2 1) then (if y < 10 then (w 3 y) else 0) else 0)
set_option maxRecDepth 20000 in
theorem zX0_lineAt (w : eW) (y : Int) (hy : eI y) (hB : HB w) : Cal mX0_lineAt [eR 2, (0, y)] w (some (0, rX0_lineAt w y)) w := by
  obtain ⟨⟨b1, b2, b3, b4, b5, b6⟩, b7, b8, b9⟩ := id hB
  unfold rX0_lineAt
  refine Cal.of (by decide +kernel) (Nat.le_of_ble_eq_true rfl) ?_
  show Go _ 0 [(0, eR 2), (1, (0, y))] [] _ _ _
  refine go_iload_n (eD DX0_lineAt 0 rfl) rfl rfl (?_)
  by_cases h1 : y < 0
  · refine go_if_ltT (tgt := 30) (eD DX0_lineAt 1 rfl) rfl (by omega) h1 ?_
    simp only [if_pos h1]
    exact go_iconst (eD DX0_lineAt 16 rfl) (go_iret (eD DX0_lineAt 17 rfl) rfl)
  · refine go_if_ltF (tgt := 30) (eD DX0_lineAt 1 rfl) rfl (by omega) h1 ?_
    refine go_iload_n (eD DX0_lineAt 2 rfl) rfl rfl (go_aload_n (eD DX0_lineAt 3 rfl) rfl rfl (go_getI (kz := 1) (eD DX0_lineAt 4 rfl) fX0_15 (by decide) rfl rfl rfl (?_)))
    by_cases h2 : y < (w 2 1)
    · refine go_icmp_geF (tgt := 30) (eD DX0_lineAt 5 rfl) rfl (by omega) (show eI (w 2 1) from by omega) (Int.not_le.mpr h2) ?_
      refine go_iload_n (eD DX0_lineAt 6 rfl) rfl rfl (go_aload_n (eD DX0_lineAt 7 rfl) rfl rfl (go_getR (t := 3) (eD DX0_lineAt 8 rfl) fX0_21 (by decide) rfl ⟨rfl, rfl⟩ (go_alen (n := 10) (eD DX0_lineAt 9 rfl) (by decide) rfl (by decide) (?_))))
      by_cases h3 : y < 10
      · refine go_icmp_geF (tgt := 30) (eD DX0_lineAt 10 rfl) rfl (by omega) (by decide) (Int.not_le.mpr h3) ?_
        simp only [if_neg h1, if_pos h2, if_pos h3]
        exact go_aload_n (eD DX0_lineAt 11 rfl) rfl rfl (go_getR (t := 3) (eD DX0_lineAt 12 rfl) fX0_21 (by decide) rfl ⟨rfl, rfl⟩ (go_iload_n (eD DX0_lineAt 13 rfl) rfl rfl (go_iald (n := 10) (eD DX0_lineAt 14 rfl) (by decide) rfl (by omega) (go_goto (tgt := 31) (eD DX0_lineAt 15 rfl) rfl (go_iret (eD DX0_lineAt 17 rfl) rfl)))))
      · refine go_icmp_geT (tgt := 30) (eD DX0_lineAt 10 rfl) rfl (by omega) (by decide) (Int.not_lt.mp h3) ?_
        simp only [if_neg h1, if_pos h2, if_neg h3]
        exact go_iconst (eD DX0_lineAt 16 rfl) (go_iret (eD DX0_lineAt 17 rfl) rfl)
    · refine go_icmp_geT (tgt := 30) (eD DX0_lineAt 5 rfl) rfl (by omega) (show eI (w 2 1) from by omega) (Int.not_lt.mp h2) ?_
      simp only [if_neg h1, if_neg h2]
      exact go_iconst (eD DX0_lineAt 16 rfl) (go_iret (eD DX0_lineAt 17 rfl) rfl)
def rX0_isInside (w : eW) (x y : Int) : Int := if 0 ≤ x ∧ x < (w 2 0) ∧ 0 ≤ y ∧ y < (w 2 1) then (if y < 0 then (if (eAnd (0 / 2 ^ (x).toNat) 1) = 1 then 1 else 0) else (if y < (w 2 1) then (if y < 10 then (if (eAnd ((w 3 y) / 2 ^ (x).toNat) 1) = 1 then 1 else 0) else (if (eAnd (0 / 2 ^ (x).toNat) 1) = 1 then 1 else 0)) else (if (eAnd (0 / 2 ^ (x).toNat) 1) = 1 then 1 else 0))) else 0
set_option maxRecDepth 20000 in
theorem zX0_isInside (w : eW) (x y : Int) (hx : eI x) (hy : eI y) (hB : HB w) : Cal mX0_isInside [eR 2, (0, x), (0, y)] w (some (0, rX0_isInside w x y)) w := by
  obtain ⟨⟨b1, b2, b3, b4, b5, b6⟩, b7, b8, b9⟩ := id hB
  have b10 := b7 y
  have e8 : 0 ≤ x → 0 ≤ y → y < 10 → eI (eAnd (w 3 y / 2 ^ x.toNat) 1) := fun g0 g1 g2 => by rw [eAnd_1 (e_div2 (by omega))]; omega
  have e9 : eI (eAnd (0 / 2 ^ x.toNat) 1) := by rw [Int.zero_ediv]; decide
  unfold rX0_isInside
  refine Cal.of (by decide +kernel) (Nat.le_of_ble_eq_true rfl) ?_
  show Go _ 0 [(0, eR 2), (1, (0, x)), (2, (0, y))] [] _ _ _
  refine go_aload_n (eD DX0_isInside 0 rfl) rfl rfl (go_iload_n (eD DX0_isInside 1 rfl) rfl rfl (go_iload_n (eD DX0_isInside 2 rfl) rfl rfl (go_callV (ci := 0) [(0, x), (0, y)] (eD DX0_isInside 3 rfl) ⟨eMem 3 9 rfl rfl, sX0_hasCell⟩ ⟨Nat.le_of_ble_eq_true rfl, Nat.le_of_ble_eq_true rfl⟩ (by decide) ⟨rfl, by decide, _, rfl, rfl⟩ rfl rfl (Nat.le_of_ble_eq_true rfl) (y_b_X0_hasCell w x y (by omega) (by omega) (by assumption)) (?_))))
  by_cases h1 : 0 ≤ x ∧ x < (w 2 0) ∧ 0 ≤ y ∧ y < (w 2 1)
  · refine go_if_eqF (tgt := 26) (eD DX0_isInside 4 rfl) rfl (eI_pI _) (pI1 h1) ?_
    refine go_aload_n (eD DX0_isInside 5 rfl) rfl rfl (go_iload_n (eD DX0_isInside 6 rfl) rfl rfl (?_))
    by_cases h2 : y < 0
    · refine go_callV (ci := 0) [(0, y)] (eD DX0_isInside 7 rfl) ⟨eMem 2 190 rfl rfl, sX0_lineAt⟩ ⟨Nat.le_of_ble_eq_true rfl, Nat.le_of_ble_eq_true rfl⟩ (by decide) ⟨rfl, by decide, _, rfl, rfl⟩ rfl rfl (Nat.le_of_ble_eq_true rfl) (Cal.as (zX0_lineAt w y (by omega) (by assumption)) (r2 := some (0, 0)) (w2 := w) (by simp only [rX0_lineAt, if_pos h1, if_pos h2]) rfl) (?_)
      refine go_iload_n (eD DX0_isInside 8 rfl) rfl rfl (go_ishr (eD DX0_isInside 9 rfl) (by decide) (by omega) (go_iconst (eD DX0_isInside 10 rfl) (go_iand (eD DX0_isInside 11 rfl) (go_iconst (eD DX0_isInside 12 rfl) (?_)))))
      by_cases h3 : (eAnd (0 / 2 ^ (x).toNat) 1) = 1
      · refine go_icmp_neF (tgt := 26) (eD DX0_isInside 13 rfl) rfl (by omega) (by decide) (not_not_intro h3) ?_
        simp only [if_pos h1, if_pos h2, if_pos h3]
        exact go_iconst (eD DX0_isInside 14 rfl) (go_goto (tgt := 27) (eD DX0_isInside 15 rfl) rfl (go_zret (eD DX0_isInside 17 rfl) rfl (by decide)))
      · refine go_icmp_neT (tgt := 26) (eD DX0_isInside 13 rfl) rfl (by omega) (by decide) h3 ?_
        simp only [if_pos h1, if_pos h2, if_neg h3]
        exact go_iconst (eD DX0_isInside 16 rfl) (go_zret (eD DX0_isInside 17 rfl) rfl (by decide))
    · by_cases h3 : y < (w 2 1)
      · by_cases h4 : y < 10
        · refine go_callV (ci := 0) [(0, y)] (eD DX0_isInside 7 rfl) ⟨eMem 2 190 rfl rfl, sX0_lineAt⟩ ⟨Nat.le_of_ble_eq_true rfl, Nat.le_of_ble_eq_true rfl⟩ (by decide) ⟨rfl, by decide, _, rfl, rfl⟩ rfl rfl (Nat.le_of_ble_eq_true rfl) (Cal.as (zX0_lineAt w y (by omega) (by assumption)) (r2 := some (0, w 3 y)) (w2 := w) (by simp only [rX0_lineAt, if_pos h1, if_neg h2, if_pos h3, if_pos h4]) rfl) (?_)
          refine go_iload_n (eD DX0_isInside 8 rfl) rfl rfl (go_ishr (eD DX0_isInside 9 rfl) (show eI (w 3 y) from by omega) (by omega) (go_iconst (eD DX0_isInside 10 rfl) (go_iand (eD DX0_isInside 11 rfl) (go_iconst (eD DX0_isInside 12 rfl) (?_)))))
          by_cases h5 : (eAnd ((w 3 y) / 2 ^ (x).toNat) 1) = 1
          · refine go_icmp_neF (tgt := 26) (eD DX0_isInside 13 rfl) rfl (show eI (eAnd ((w 3 y) / 2 ^ (x).toNat) 1) from by omega) (by decide) (not_not_intro h5) ?_
            simp only [if_pos h1, if_neg h2, if_pos h3, if_pos h4, if_pos h5]
            exact go_iconst (eD DX0_isInside 14 rfl) (go_goto (tgt := 27) (eD DX0_isInside 15 rfl) rfl (go_zret (eD DX0_isInside 17 rfl) rfl (by decide)))
          · refine go_icmp_neT (tgt := 26) (eD DX0_isInside 13 rfl) rfl (show eI (eAnd ((w 3 y) / 2 ^ (x).toNat) 1) from by omega) (by decide) h5 ?_
            simp only [if_pos h1, if_neg h2, if_pos h3, if_pos h4, if_neg h5]
            exact go_iconst (eD DX0_isInside 16 rfl) (go_zret (eD DX0_isInside 17 rfl) rfl (by decide))
        · refine go_callV (ci := 0) [(0, y)] (eD DX0_isInside 7 rfl) ⟨eMem 2 190 rfl rfl, sX0_lineAt⟩ ⟨Nat.le_of_ble_eq_true rfl, Nat.le_of_ble_eq_true rfl⟩ (by decide) ⟨rfl, by decide, _, rfl, rfl⟩ rfl rfl (Nat.le_of_ble_eq_true rfl) (Cal.as (zX0_lineAt w y (by omega) (by assumption)) (r2 := some (0, 0)) (w2 := w) (by simp only [rX0_lineAt, if_pos h1, if_neg h2, if_pos h3, if_neg h4]) rfl) (?_)
          refine go_iload_n (eD DX0_isInside 8 rfl) rfl rfl (go_ishr (eD DX0_isInside 9 rfl) (by decide) (by omega) (go_iconst (eD DX0_isInside 10 rfl) (go_iand (eD DX0_isInside 11 rfl) (go_iconst (eD DX0_isInside 12 rfl) (?_)))))
          by_cases h5 : (eAnd (0 / 2 ^ (x).toNat) 1) = 1
          · refine go_icmp_neF (tgt := 26) (eD DX0_isInside 13 rfl) rfl (by omega) (by decide) (not_not_intro h5) ?_
            simp only [if_pos h1, if_neg h2, if_pos h3, if_neg h4, if_pos h5]
            exact go_iconst (eD DX0_isInside 14 rfl) (go_goto (tgt := 27) (eD DX0_isInside 15 rfl) rfl (go_zret (eD DX0_isInside 17 rfl) rfl (by decide)))
          · refine go_icmp_neT (tgt := 26) (eD DX0_isInside 13 rfl) rfl (by omega) (by decide) h5 ?_
            simp only [if_pos h1, if_neg h2, if_pos h3, if_neg h4, if_neg h5]
            exact go_iconst (eD DX0_isInside 16 rfl) (go_zret (eD DX0_isInside 17 rfl) rfl (by decide))
      · refine go_callV (ci := 0) [(0, y)] (eD DX0_isInside 7 rfl) ⟨eMem 2 190 rfl rfl, sX0_lineAt⟩ ⟨Nat.le_of_ble_eq_true rfl, Nat.le_of_ble_eq_true rfl⟩ (by decide) ⟨rfl, by decide, _, rfl, rfl⟩ rfl rfl (Nat.le_of_ble_eq_true rfl) (Cal.as (zX0_lineAt w y (by omega) (by assumption)) (r2 := some (0, 0)) (w2 := w) (by simp only [rX0_lineAt, if_pos h1, if_neg h2, if_neg h3]) rfl) (?_)
        refine go_iload_n (eD DX0_isInside 8 rfl) rfl rfl (go_ishr (eD DX0_isInside 9 rfl) (by decide) (by omega) (go_iconst (eD DX0_isInside 10 rfl) (go_iand (eD DX0_isInside 11 rfl) (go_iconst (eD DX0_isInside 12 rfl) (?_)))))
        by_cases h4 : (eAnd (0 / 2 ^ (x).toNat) 1) = 1
        · refine go_icmp_neF (tgt := 26) (eD DX0_isInside 13 rfl) rfl (by omega) (by decide) (not_not_intro h4) ?_
          simp only [if_pos h1, if_neg h2, if_neg h3, if_pos h4]
          exact go_iconst (eD DX0_isInside 14 rfl) (go_goto (tgt := 27) (eD DX0_isInside 15 rfl) rfl (go_zret (eD DX0_isInside 17 rfl) rfl (by decide)))
        · refine go_icmp_neT (tgt := 26) (eD DX0_isInside 13 rfl) rfl (by omega) (by decide) h4 ?_
          simp only [if_pos h1, if_neg h2, if_neg h3, if_neg h4]
          exact go_iconst (eD DX0_isInside 16 rfl) (go_zret (eD DX0_isInside 17 rfl) rfl (by decide))
  · refine go_if_eqT (tgt := 26) (eD DX0_isInside 4 rfl) rfl (eI_pI _) (pI0 h1) ?_
    simp only [if_neg h1]
    exact go_iconst (eD DX0_isInside 16 rfl) (go_zret (eD DX0_isInside 17 rfl) rfl (by decide))
theorem y_b_X0_isInside (w : eW) (x y : Int) (hx : eI x) (hy : eI y) (hB : HB w) : Cal mX0_isInside [eR 2, (0, x), (0, y)] w (some (0, if insC w x y then 1 else 0)) w := by
  obtain ⟨⟨b1, b2, b3, b4, b5, b6⟩, b7, b8, b9⟩ := id hB
  refine Cal.as (zX0_isInside w x y hx hy hB) ?_ rfl
  unfold rX0_isInside
  congr 2
  by_cases h1 : 0 ≤ x ∧ x < w 2 0 ∧ 0 ≤ y ∧ y < w 2 1
  · have h2 := b7 y (by omega) (by omega)
    rw [if_pos h1, if_neg (by omega), if_pos h1.2.2.2, if_pos (by omega), eAnd_1 (e_div2 (by omega))]
    by_cases h3 : w 3 y / 2 ^ x.toNat % 2 = 1
    · rw [if_pos h3, if_pos ⟨h1.1, h1.2.1, h1.2.2.1, h1.2.2.2, h3⟩]
    · rw [if_neg h3, if_neg (fun q => h3 q.2.2.2.2)]
  · rw [if_neg h1, if_neg (fun q => h1 ⟨q.1, q.2.1, q.2.2.1, q.2.2.2.1⟩)]
def rX0_hasPoint (w : eW) (px py : Int) : Int := if px < 0 then 0 else (if (4 * (w 2 0)) < px then 0 else (if py < 0 then 0 else (if (4 * (w 2 1)) < py then 0 else 1)))
set_option maxRecDepth 20000 in
theorem zX0_hasPoint (w : eW) (px py : Int) (hpx : eI px) (hpy : eI py) (hB : HB w) : Cal mX0_hasPoint [eR 2, (0, px), (0, py)] w (some (0, rX0_hasPoint w px py)) w := by
  obtain ⟨⟨b1, b2, b3, b4, b5, b6⟩, b7, b8, b9⟩ := id hB
  unfold rX0_hasPoint
  refine Cal.of (by decide +kernel) (Nat.le_of_ble_eq_true rfl) ?_
  show Go _ 0 [(0, eR 2), (1, (0, px)), (2, (0, py))] [] _ _ _
  refine go_iload_n (eD DX0_hasPoint 0 rfl) rfl rfl (?_)
  by_cases h1 : px < 0
  · refine go_if_ltT (tgt := 32) (eD DX0_hasPoint 1 rfl) rfl (by omega) h1 ?_
    simp only [if_pos h1]
    exact go_iconst (eD DX0_hasPoint 18 rfl) (go_zret (eD DX0_hasPoint 19 rfl) rfl (by decide))
  · refine go_if_ltF (tgt := 32) (eD DX0_hasPoint 1 rfl) rfl (by omega) h1 ?_
    refine go_iload_n (eD DX0_hasPoint 2 rfl) rfl rfl (go_iconst (eD DX0_hasPoint 3 rfl) (go_aload_n (eD DX0_hasPoint 4 rfl) rfl rfl (go_getI (kz := 0) (eD DX0_hasPoint 5 rfl) fX0_9 (by decide) rfl rfl rfl (go_imul (eD DX0_hasPoint 6 rfl) (?_)))))
    by_cases h2 : (4 * (w 2 0)) < px
    · refine go_icmp_gtT (tgt := 32) (eD DX0_hasPoint 7 rfl) rfl (by omega) (show eI (4 * (w 2 0)) from by omega) h2 ?_
      simp only [if_neg h1, if_pos h2]
      exact go_iconst (eD DX0_hasPoint 18 rfl) (go_zret (eD DX0_hasPoint 19 rfl) rfl (by decide))
    · refine go_icmp_gtF (tgt := 32) (eD DX0_hasPoint 7 rfl) rfl (by omega) (show eI (4 * (w 2 0)) from by omega) h2 ?_
      refine go_iload_n (eD DX0_hasPoint 8 rfl) rfl rfl (?_)
      by_cases h3 : py < 0
      · refine go_if_ltT (tgt := 32) (eD DX0_hasPoint 9 rfl) rfl (by omega) h3 ?_
        simp only [if_neg h1, if_neg h2, if_pos h3]
        exact go_iconst (eD DX0_hasPoint 18 rfl) (go_zret (eD DX0_hasPoint 19 rfl) rfl (by decide))
      · refine go_if_ltF (tgt := 32) (eD DX0_hasPoint 9 rfl) rfl (by omega) h3 ?_
        refine go_iload_n (eD DX0_hasPoint 10 rfl) rfl rfl (go_iconst (eD DX0_hasPoint 11 rfl) (go_aload_n (eD DX0_hasPoint 12 rfl) rfl rfl (go_getI (kz := 1) (eD DX0_hasPoint 13 rfl) fX0_15 (by decide) rfl rfl rfl (go_imul (eD DX0_hasPoint 14 rfl) (?_)))))
        by_cases h4 : (4 * (w 2 1)) < py
        · refine go_icmp_gtT (tgt := 32) (eD DX0_hasPoint 15 rfl) rfl (by omega) (show eI (4 * (w 2 1)) from by omega) h4 ?_
          simp only [if_neg h1, if_neg h2, if_neg h3, if_pos h4]
          exact go_iconst (eD DX0_hasPoint 18 rfl) (go_zret (eD DX0_hasPoint 19 rfl) rfl (by decide))
        · refine go_icmp_gtF (tgt := 32) (eD DX0_hasPoint 15 rfl) rfl (by omega) (show eI (4 * (w 2 1)) from by omega) h4 ?_
          simp only [if_neg h1, if_neg h2, if_neg h3, if_neg h4]
          exact go_iconst (eD DX0_hasPoint 16 rfl) (go_goto (tgt := 33) (eD DX0_hasPoint 17 rfl) rfl (go_zret (eD DX0_hasPoint 19 rfl) rfl (by decide)))
theorem y_b_X0_hasPoint (w : eW) (px py : Int) (hpx : eI px) (hpy : eI py) (hB : HB w) : Cal mX0_hasPoint [eR 2, (0, px), (0, py)] w (some (0, if 0 ≤ px ∧ px ≤ 4 * (w 2 0) ∧ 0 ≤ py ∧ py ≤ 4 * (w 2 1) then 1 else 0)) w := by
  obtain ⟨⟨b1, b2, b3, b4, b5, b6⟩, b7, b8, b9⟩ := id hB
  refine Cal.as (zX0_hasPoint w px py hpx hpy hB) ?_ rfl
  unfold rX0_hasPoint
  congr 2
  (repeat' split) <;> omega
def rX0_hasMark (w : eW) (i : Int) : Int := if i < 0 then 0 else (if i < (w 2 2) then 1 else 0)
set_option maxRecDepth 20000 in
theorem zX0_hasMark (w : eW) (i : Int) (hi : eI i) (hB : HB w) : Cal mX0_hasMark [eR 2, (0, i)] w (some (0, rX0_hasMark w i)) w := by
  obtain ⟨⟨b1, b2, b3, b4, b5, b6⟩, b7, b8, b9⟩ := id hB
  unfold rX0_hasMark
  refine Cal.of (by decide +kernel) (Nat.le_of_ble_eq_true rfl) ?_
  show Go _ 0 [(0, eR 2), (1, (0, i))] [] _ _ _
  refine go_iload_n (eD DX0_hasMark 0 rfl) rfl rfl (?_)
  by_cases h1 : i < 0
  · refine go_if_ltT (tgt := 16) (eD DX0_hasMark 1 rfl) rfl (by omega) h1 ?_
    simp only [if_pos h1]
    exact go_iconst (eD DX0_hasMark 8 rfl) (go_zret (eD DX0_hasMark 9 rfl) rfl (by decide))
  · refine go_if_ltF (tgt := 16) (eD DX0_hasMark 1 rfl) rfl (by omega) h1 ?_
    refine go_iload_n (eD DX0_hasMark 2 rfl) rfl rfl (go_aload_n (eD DX0_hasMark 3 rfl) rfl rfl (go_getI (kz := 2) (eD DX0_hasMark 4 rfl) fX0_18 (by decide) rfl rfl rfl (?_)))
    by_cases h2 : i < (w 2 2)
    · refine go_icmp_geF (tgt := 16) (eD DX0_hasMark 5 rfl) rfl (by omega) (show eI (w 2 2) from by omega) (Int.not_le.mpr h2) ?_
      simp only [if_neg h1, if_pos h2]
      exact go_iconst (eD DX0_hasMark 6 rfl) (go_goto (tgt := 17) (eD DX0_hasMark 7 rfl) rfl (go_zret (eD DX0_hasMark 9 rfl) rfl (by decide)))
    · refine go_icmp_geT (tgt := 16) (eD DX0_hasMark 5 rfl) rfl (by omega) (show eI (w 2 2) from by omega) (Int.not_lt.mp h2) ?_
      simp only [if_neg h1, if_neg h2]
      exact go_iconst (eD DX0_hasMark 8 rfl) (go_zret (eD DX0_hasMark 9 rfl) rfl (by decide))
theorem y_b_X0_hasMark (w : eW) (i : Int) (hi : eI i) (hB : HB w) : Cal mX0_hasMark [eR 2, (0, i)] w (some (0, if 0 ≤ i ∧ i < (w 2 2) then 1 else 0)) w := by
  obtain ⟨⟨b1, b2, b3, b4, b5, b6⟩, b7, b8, b9⟩ := id hB
  refine Cal.as (zX0_hasMark w i hi hB) ?_ rfl
  unfold rX0_hasMark
  congr 2
  (repeat' split) <;> omega
def rX0_pace (w : eW) (side : Int) : Int := if side < 0 then 1 else (if side < 4 then (w 4 side) else 1)
set_option maxRecDepth 20000 in
theorem zX0_pace (w : eW) (side : Int) (hside : eI side) : Cal mX0_pace [eR 2, (0, side)] w (some (0, rX0_pace w side)) w := by
  unfold rX0_pace
  refine Cal.of (by decide +kernel) (Nat.le_of_ble_eq_true rfl) ?_
  show Go _ 0 [(0, eR 2), (1, (0, side))] [] _ _ _
  refine go_iload_n (eD DX0_pace 0 rfl) rfl rfl (?_)
  by_cases h1 : side < 0
  · refine go_if_ltT (tgt := 22) (eD DX0_pace 1 rfl) rfl (by omega) h1 ?_
    simp only [if_pos h1]
    exact go_iconst (eD DX0_pace 12 rfl) (go_iret (eD DX0_pace 13 rfl) rfl)
  · refine go_if_ltF (tgt := 22) (eD DX0_pace 1 rfl) rfl (by omega) h1 ?_
    refine go_iload_n (eD DX0_pace 2 rfl) rfl rfl (go_aload_n (eD DX0_pace 3 rfl) rfl rfl (go_getR (t := 4) (eD DX0_pace 4 rfl) fX0_25 (by decide) rfl ⟨rfl, rfl⟩ (go_alen (n := 4) (eD DX0_pace 5 rfl) (by decide) rfl (by decide) (?_))))
    by_cases h2 : side < 4
    · refine go_icmp_geF (tgt := 22) (eD DX0_pace 6 rfl) rfl (by omega) (by decide) (Int.not_le.mpr h2) ?_
      simp only [if_neg h1, if_pos h2]
      exact go_aload_n (eD DX0_pace 7 rfl) rfl rfl (go_getR (t := 4) (eD DX0_pace 8 rfl) fX0_25 (by decide) rfl ⟨rfl, rfl⟩ (go_iload_n (eD DX0_pace 9 rfl) rfl rfl (go_iald (n := 4) (eD DX0_pace 10 rfl) (by decide) rfl (by omega) (go_goto (tgt := 23) (eD DX0_pace 11 rfl) rfl (go_iret (eD DX0_pace 13 rfl) rfl)))))
    · refine go_icmp_geT (tgt := 22) (eD DX0_pace 6 rfl) rfl (by omega) (by decide) (Int.not_lt.mp h2) ?_
      simp only [if_neg h1, if_neg h2]
      exact go_iconst (eD DX0_pace 12 rfl) (go_iret (eD DX0_pace 13 rfl) rfl)
def wX0_setPace (w : eW) (side v : Int) : eW := if side < 0 then w else (if side < 4 then (eU w 4 side v) else w)
set_option maxRecDepth 20000 in
theorem zX0_setPace (w : eW) (side v : Int) (hside : eI side) : Cal mX0_setPace [eR 2, (0, side), (0, v)] w none (wX0_setPace w side v) := by
  unfold wX0_setPace
  refine Cal.of (by decide +kernel) (Nat.le_of_ble_eq_true rfl) ?_
  show Go _ 0 [(0, eR 2), (1, (0, side)), (2, (0, v))] [] _ _ _
  refine go_iload_n (eD DX0_setPace 0 rfl) rfl rfl (?_)
  by_cases h1 : side < 0
  · refine go_if_ltT (tgt := 20) (eD DX0_setPace 1 rfl) rfl (by omega) h1 ?_
    simp only [if_pos h1]
    exact go_vret (eD DX0_setPace 12 rfl) rfl
  · refine go_if_ltF (tgt := 20) (eD DX0_setPace 1 rfl) rfl (by omega) h1 ?_
    refine go_iload_n (eD DX0_setPace 2 rfl) rfl rfl (go_aload_n (eD DX0_setPace 3 rfl) rfl rfl (go_getR (t := 4) (eD DX0_setPace 4 rfl) fX0_25 (by decide) rfl ⟨rfl, rfl⟩ (go_alen (n := 4) (eD DX0_setPace 5 rfl) (by decide) rfl (by decide) (?_))))
    by_cases h2 : side < 4
    · refine go_icmp_geF (tgt := 20) (eD DX0_setPace 6 rfl) rfl (by omega) (by decide) (Int.not_le.mpr h2) ?_
      simp only [if_neg h1, if_pos h2]
      exact go_aload_n (eD DX0_setPace 7 rfl) rfl rfl (go_getR (t := 4) (eD DX0_setPace 8 rfl) fX0_25 (by decide) rfl ⟨rfl, rfl⟩ (go_iload_n (eD DX0_setPace 9 rfl) rfl rfl (go_iload_n (eD DX0_setPace 10 rfl) rfl rfl (go_iast (n := 4) (eD DX0_setPace 11 rfl) (by decide) rfl (by omega) (go_vret (eD DX0_setPace 12 rfl) rfl)))))
    · refine go_icmp_geT (tgt := 20) (eD DX0_setPace 6 rfl) rfl (by omega) (by decide) (Int.not_lt.mp h2) ?_
      simp only [if_neg h1, if_neg h2]
      exact go_vret (eD DX0_setPace 12 rfl) rfl
def wX0_setLine (w : eW) (y bits : Int) : eW := if y < 0 then w else (if y < 10 then (eU w 3 y bits) else w)
set_option maxRecDepth 20000 in
theorem zX0_setLine (w : eW) (y bits : Int) (hy : eI y) : Cal mX0_setLine [eR 2, (0, y), (0, bits)] w none (wX0_setLine w y bits) := by
  unfold wX0_setLine
  refine Cal.of (by decide +kernel) (Nat.le_of_ble_eq_true rfl) ?_
  show Go _ 0 [(0, eR 2), (1, (0, y)), (2, (0, bits))] [] _ _ _
  refine go_iload_n (eD DX0_setLine 0 rfl) rfl rfl (?_)
  by_cases h1 : y < 0
  · refine go_if_ltT (tgt := 20) (eD DX0_setLine 1 rfl) rfl (by omega) h1 ?_
    simp only [if_pos h1]
    exact go_vret (eD DX0_setLine 12 rfl) rfl
  · refine go_if_ltF (tgt := 20) (eD DX0_setLine 1 rfl) rfl (by omega) h1 ?_
    refine go_iload_n (eD DX0_setLine 2 rfl) rfl rfl (go_aload_n (eD DX0_setLine 3 rfl) rfl rfl (go_getR (t := 3) (eD DX0_setLine 4 rfl) fX0_21 (by decide) rfl ⟨rfl, rfl⟩ (go_alen (n := 10) (eD DX0_setLine 5 rfl) (by decide) rfl (by decide) (?_))))
    by_cases h2 : y < 10
    · refine go_icmp_geF (tgt := 20) (eD DX0_setLine 6 rfl) rfl (by omega) (by decide) (Int.not_le.mpr h2) ?_
      simp only [if_neg h1, if_pos h2]
      exact go_aload_n (eD DX0_setLine 7 rfl) rfl rfl (go_getR (t := 3) (eD DX0_setLine 8 rfl) fX0_21 (by decide) rfl ⟨rfl, rfl⟩ (go_iload_n (eD DX0_setLine 9 rfl) rfl rfl (go_iload_n (eD DX0_setLine 10 rfl) rfl rfl (go_iast (n := 10) (eD DX0_setLine 11 rfl) (by decide) rfl (by omega) (go_vret (eD DX0_setLine 12 rfl) rfl)))))
    · refine go_icmp_geT (tgt := 20) (eD DX0_setLine 6 rfl) rfl (by omega) (by decide) (Int.not_lt.mp h2) ?_
      simp only [if_neg h1, if_neg h2]
      exact go_vret (eD DX0_setLine 12 rfl) rfl
def wX0_setPace9 (w : eW) (side v : Int) : eW := if side < 0 then w else (if side < 4 then (eU w 11 side v) else w)
set_option maxRecDepth 20000 in
theorem zX0_setPace9 (w : eW) (side v : Int) (hside : eI side) : Cal mX0_setPace [eR 9, (0, side), (0, v)] w none (wX0_setPace9 w side v) := by
  unfold wX0_setPace9
  refine Cal.of (by decide +kernel) (Nat.le_of_ble_eq_true rfl) ?_
  show Go _ 0 [(0, eR 9), (1, (0, side)), (2, (0, v))] [] _ _ _
  refine go_iload_n (eD DX0_setPace 0 rfl) rfl rfl (?_)
  by_cases h1 : side < 0
  · refine go_if_ltT (tgt := 20) (eD DX0_setPace 1 rfl) rfl (by omega) h1 ?_
    simp only [if_pos h1]
    exact go_vret (eD DX0_setPace 12 rfl) rfl
  · refine go_if_ltF (tgt := 20) (eD DX0_setPace 1 rfl) rfl (by omega) h1 ?_
    refine go_iload_n (eD DX0_setPace 2 rfl) rfl rfl (go_aload_n (eD DX0_setPace 3 rfl) rfl rfl (go_getR (t := 11) (eD DX0_setPace 4 rfl) fX0_25 (by decide) rfl ⟨rfl, rfl⟩ (go_alen (n := 4) (eD DX0_setPace 5 rfl) (by decide) rfl (by decide) (?_))))
    by_cases h2 : side < 4
    · refine go_icmp_geF (tgt := 20) (eD DX0_setPace 6 rfl) rfl (by omega) (by decide) (Int.not_le.mpr h2) ?_
      simp only [if_neg h1, if_pos h2]
      exact go_aload_n (eD DX0_setPace 7 rfl) rfl rfl (go_getR (t := 11) (eD DX0_setPace 8 rfl) fX0_25 (by decide) rfl ⟨rfl, rfl⟩ (go_iload_n (eD DX0_setPace 9 rfl) rfl rfl (go_iload_n (eD DX0_setPace 10 rfl) rfl rfl (go_iast (n := 4) (eD DX0_setPace 11 rfl) (by decide) rfl (by omega) (go_vret (eD DX0_setPace 12 rfl) rfl)))))
    · refine go_icmp_geT (tgt := 20) (eD DX0_setPace 6 rfl) rfl (by omega) (by decide) (Int.not_lt.mp h2) ?_
      simp only [if_neg h1, if_neg h2]
      exact go_vret (eD DX0_setPace 12 rfl) rfl
def wX0_setLine9 (w : eW) (y bits : Int) : eW := if y < 0 then w else (if y < 10 then (eU w 10 y bits) else w)
set_option maxRecDepth 20000 in
theorem zX0_setLine9 (w : eW) (y bits : Int) (hy : eI y) : Cal mX0_setLine [eR 9, (0, y), (0, bits)] w none (wX0_setLine9 w y bits) := by
  unfold wX0_setLine9
  refine Cal.of (by decide +kernel) (Nat.le_of_ble_eq_true rfl) ?_
  show Go _ 0 [(0, eR 9), (1, (0, y)), (2, (0, bits))] [] _ _ _
  refine go_iload_n (eD DX0_setLine 0 rfl) rfl rfl (?_)
  by_cases h1 : y < 0
  · refine go_if_ltT (tgt := 20) (eD DX0_setLine 1 rfl) rfl (by omega) h1 ?_
    simp only [if_pos h1]
    exact go_vret (eD DX0_setLine 12 rfl) rfl
  · refine go_if_ltF (tgt := 20) (eD DX0_setLine 1 rfl) rfl (by omega) h1 ?_
    refine go_iload_n (eD DX0_setLine 2 rfl) rfl rfl (go_aload_n (eD DX0_setLine 3 rfl) rfl rfl (go_getR (t := 10) (eD DX0_setLine 4 rfl) fX0_21 (by decide) rfl ⟨rfl, rfl⟩ (go_alen (n := 10) (eD DX0_setLine 5 rfl) (by decide) rfl (by decide) (?_))))
    by_cases h2 : y < 10
    · refine go_icmp_geF (tgt := 20) (eD DX0_setLine 6 rfl) rfl (by omega) (by decide) (Int.not_le.mpr h2) ?_
      simp only [if_neg h1, if_pos h2]
      exact go_aload_n (eD DX0_setLine 7 rfl) rfl rfl (go_getR (t := 10) (eD DX0_setLine 8 rfl) fX0_21 (by decide) rfl ⟨rfl, rfl⟩ (go_iload_n (eD DX0_setLine 9 rfl) rfl rfl (go_iload_n (eD DX0_setLine 10 rfl) rfl rfl (go_iast (n := 10) (eD DX0_setLine 11 rfl) (by decide) rfl (by omega) (go_vret (eD DX0_setLine 12 rfl) rfl)))))
    · refine go_icmp_geT (tgt := 20) (eD DX0_setLine 6 rfl) rfl (by omega) (by decide) (Int.not_lt.mp h2) ?_
      simp only [if_neg h1, if_neg h2]
      exact go_vret (eD DX0_setLine 12 rfl) rfl
def rX0_lineAt9 (w : eW) (y : Int) : Int := if y < 0 then 0 else (if y < (w 9 1) then (if y < 10 then (w 10 y) else 0) else 0)
set_option maxRecDepth 20000 in
theorem zX0_lineAt9 (w : eW) (y : Int) (hy : eI y) (hD : eI (w 9 1)) : Cal mX0_lineAt [eR 9, (0, y)] w (some (0, rX0_lineAt9 w y)) w := by
  unfold rX0_lineAt9
  refine Cal.of (by decide +kernel) (Nat.le_of_ble_eq_true rfl) ?_
  show Go _ 0 [(0, eR 9), (1, (0, y))] [] _ _ _
  refine go_iload_n (eD DX0_lineAt 0 rfl) rfl rfl (?_)
  by_cases h1 : y < 0
  · refine go_if_ltT (tgt := 30) (eD DX0_lineAt 1 rfl) rfl (by omega) h1 ?_
    simp only [if_pos h1]
    exact go_iconst (eD DX0_lineAt 16 rfl) (go_iret (eD DX0_lineAt 17 rfl) rfl)
  · refine go_if_ltF (tgt := 30) (eD DX0_lineAt 1 rfl) rfl (by omega) h1 ?_
    refine go_iload_n (eD DX0_lineAt 2 rfl) rfl rfl (go_aload_n (eD DX0_lineAt 3 rfl) rfl rfl (go_getI (kz := 1) (eD DX0_lineAt 4 rfl) fX0_15 (by decide) rfl rfl rfl (?_)))
    by_cases h2 : y < (w 9 1)
    · refine go_icmp_geF (tgt := 30) (eD DX0_lineAt 5 rfl) rfl (by omega) (show eI (w 9 1) from by omega) (Int.not_le.mpr h2) ?_
      refine go_iload_n (eD DX0_lineAt 6 rfl) rfl rfl (go_aload_n (eD DX0_lineAt 7 rfl) rfl rfl (go_getR (t := 10) (eD DX0_lineAt 8 rfl) fX0_21 (by decide) rfl ⟨rfl, rfl⟩ (go_alen (n := 10) (eD DX0_lineAt 9 rfl) (by decide) rfl (by decide) (?_))))
      by_cases h3 : y < 10
      · refine go_icmp_geF (tgt := 30) (eD DX0_lineAt 10 rfl) rfl (by omega) (by decide) (Int.not_le.mpr h3) ?_
        simp only [if_neg h1, if_pos h2, if_pos h3]
        exact go_aload_n (eD DX0_lineAt 11 rfl) rfl rfl (go_getR (t := 10) (eD DX0_lineAt 12 rfl) fX0_21 (by decide) rfl ⟨rfl, rfl⟩ (go_iload_n (eD DX0_lineAt 13 rfl) rfl rfl (go_iald (n := 10) (eD DX0_lineAt 14 rfl) (by decide) rfl (by omega) (go_goto (tgt := 31) (eD DX0_lineAt 15 rfl) rfl (go_iret (eD DX0_lineAt 17 rfl) rfl)))))
      · refine go_icmp_geT (tgt := 30) (eD DX0_lineAt 10 rfl) rfl (by omega) (by decide) (Int.not_lt.mp h3) ?_
        simp only [if_neg h1, if_pos h2, if_neg h3]
        exact go_iconst (eD DX0_lineAt 16 rfl) (go_iret (eD DX0_lineAt 17 rfl) rfl)
    · refine go_icmp_geT (tgt := 30) (eD DX0_lineAt 5 rfl) rfl (by omega) (show eI (w 9 1) from by omega) (Int.not_lt.mp h2) ?_
      simp only [if_neg h1, if_neg h2]
      exact go_iconst (eD DX0_lineAt 16 rfl) (go_iret (eD DX0_lineAt 17 rfl) rfl)
def rX8_in (w : eW) (v low high : Int) : Int := if v < low then 0 else (if high < v then 0 else 1)
set_option maxRecDepth 20000 in
theorem zX8_in (w : eW) (v low high : Int) (hv : eI v) (hlow : eI low) (hhigh : eI high) : Cal mX8_in [(0, v), (0, low), (0, high)] w (some (0, rX8_in w v low high)) w := by
  unfold rX8_in
  refine Cal.of (by decide +kernel) (Nat.le_of_ble_eq_true rfl) ?_
  show Go _ 0 [(0, (0, v)), (1, (0, low)), (2, (0, high))] [] _ _ _
  refine go_iload_n (eD DX8_in 0 rfl) rfl rfl (go_iload_n (eD DX8_in 1 rfl) rfl rfl (?_))
  by_cases h1 : v < low
  · refine go_icmp_ltT (tgt := 14) (eD DX8_in 2 rfl) rfl (by omega) (by omega) h1 ?_
    simp only [if_pos h1]
    exact go_iconst (eD DX8_in 8 rfl) (go_zret (eD DX8_in 9 rfl) rfl (by decide))
  · refine go_icmp_ltF (tgt := 14) (eD DX8_in 2 rfl) rfl (by omega) (by omega) h1 ?_
    refine go_iload_n (eD DX8_in 3 rfl) rfl rfl (go_iload_n (eD DX8_in 4 rfl) rfl rfl (?_))
    by_cases h2 : high < v
    · refine go_icmp_gtT (tgt := 14) (eD DX8_in 5 rfl) rfl (by omega) (by omega) h2 ?_
      simp only [if_neg h1, if_pos h2]
      exact go_iconst (eD DX8_in 8 rfl) (go_zret (eD DX8_in 9 rfl) rfl (by decide))
    · refine go_icmp_gtF (tgt := 14) (eD DX8_in 5 rfl) rfl (by omega) (by omega) h2 ?_
      simp only [if_neg h1, if_neg h2]
      exact go_iconst (eD DX8_in 6 rfl) (go_goto (tgt := 15) (eD DX8_in 7 rfl) rfl (go_zret (eD DX8_in 9 rfl) rfl (by decide)))
theorem y_b_X8_in (w : eW) (v low high : Int) (hv : eI v) (hlow : eI low) (hhigh : eI high) : Cal mX8_in [(0, v), (0, low), (0, high)] w (some (0, if low ≤ v ∧ v ≤ high then 1 else 0)) w := by
  refine Cal.as (zX8_in w v low high hv hlow hhigh) ?_ rfl
  unfold rX8_in
  congr 2
  (repeat' split) <;> omega
def rX8_isFrame (w : eW) (x y : Int) : Int := if (w 33 28) = 0 then 0 else (if 0 ≤ x ∧ x ≤ ((w 33 24) - 1) then (if 0 ≤ y ∧ y ≤ ((w 33 25) - 1) then 1 else 0) else 0)
set_option maxRecDepth 20000 in
theorem zX8_isFrame (w : eW) (x y : Int) (hx : eI x) (hy : eI y) (hM : MB w) : Cal mX8_isFrame [eR 33, (0, x), (0, y)] w (some (0, rX8_isFrame w x y)) w := by
  obtain ⟨⟨c1, c2, c3, c4, c5, c6, c7, c8, c9, c10⟩, c11, c12, c13⟩ := id hM
  unfold rX8_isFrame
  refine Cal.of (by decide +kernel) (Nat.le_of_ble_eq_true rfl) ?_
  show Go _ 0 [(0, eR 33), (1, (0, x)), (2, (0, y))] [] _ _ _
  refine go_aload_n (eD DX8_isFrame 0 rfl) rfl rfl (go_getI (kz := 28) (eD DX8_isFrame 1 rfl) fX8_228 (by decide) rfl rfl rfl (?_))
  by_cases h1 : (w 33 28) = 0
  · refine go_if_eqT (tgt := 39) (eD DX8_isFrame 2 rfl) rfl (show eI (w 33 28) from by omega) h1 ?_
    simp only [if_pos h1]
    exact go_iconst (eD DX8_isFrame 21 rfl) (go_zret (eD DX8_isFrame 22 rfl) rfl (by decide))
  · refine go_if_eqF (tgt := 39) (eD DX8_isFrame 2 rfl) rfl (show eI (w 33 28) from by omega) h1 ?_
    refine go_iload_n (eD DX8_isFrame 3 rfl) rfl rfl (go_iconst (eD DX8_isFrame 4 rfl) (go_aload_n (eD DX8_isFrame 5 rfl) rfl rfl (go_getI (kz := 24) (eD DX8_isFrame 6 rfl) fX8_216 (by decide) rfl rfl rfl (go_iconst (eD DX8_isFrame 7 rfl) (go_isub (eD DX8_isFrame 8 rfl) (go_callS [(0, x), (0, 0), (0, (w 33 24) - 1)] (eD DX8_isFrame 9 rfl) ⟨eMem 5 230 rfl rfl, sX8_in⟩ ⟨Nat.le_of_ble_eq_true rfl, Nat.le_of_ble_eq_true rfl⟩ rfl rfl (Nat.le_of_ble_eq_true rfl) (y_b_X8_in w x 0 ((w 33 24) - 1) (by omega) (by decide) (show eI ((w 33 24) - 1) from by omega) ) (?_)))))))
    by_cases h2 : 0 ≤ x ∧ x ≤ ((w 33 24) - 1)
    · refine go_if_eqF (tgt := 39) (eD DX8_isFrame 10 rfl) rfl (eI_pI _) (pI1 h2) ?_
      refine go_iload_n (eD DX8_isFrame 11 rfl) rfl rfl (go_iconst (eD DX8_isFrame 12 rfl) (go_aload_n (eD DX8_isFrame 13 rfl) rfl rfl (go_getI (kz := 25) (eD DX8_isFrame 14 rfl) fX8_219 (by decide) rfl rfl rfl (go_iconst (eD DX8_isFrame 15 rfl) (go_isub (eD DX8_isFrame 16 rfl) (go_callS [(0, y), (0, 0), (0, (w 33 25) - 1)] (eD DX8_isFrame 17 rfl) ⟨eMem 5 230 rfl rfl, sX8_in⟩ ⟨Nat.le_of_ble_eq_true rfl, Nat.le_of_ble_eq_true rfl⟩ rfl rfl (Nat.le_of_ble_eq_true rfl) (y_b_X8_in w y 0 ((w 33 25) - 1) (by omega) (by decide) (show eI ((w 33 25) - 1) from by omega) ) (?_)))))))
      by_cases h3 : 0 ≤ y ∧ y ≤ ((w 33 25) - 1)
      · refine go_if_eqF (tgt := 39) (eD DX8_isFrame 18 rfl) rfl (eI_pI _) (pI1 h3) ?_
        simp only [if_neg h1, if_pos h2, if_pos h3]
        exact go_iconst (eD DX8_isFrame 19 rfl) (go_goto (tgt := 40) (eD DX8_isFrame 20 rfl) rfl (go_zret (eD DX8_isFrame 22 rfl) rfl (by decide)))
      · refine go_if_eqT (tgt := 39) (eD DX8_isFrame 18 rfl) rfl (eI_pI _) (pI0 h3) ?_
        simp only [if_neg h1, if_pos h2, if_neg h3]
        exact go_iconst (eD DX8_isFrame 21 rfl) (go_zret (eD DX8_isFrame 22 rfl) rfl (by decide))
    · refine go_if_eqT (tgt := 39) (eD DX8_isFrame 10 rfl) rfl (eI_pI _) (pI0 h2) ?_
      simp only [if_neg h1, if_neg h2]
      exact go_iconst (eD DX8_isFrame 21 rfl) (go_zret (eD DX8_isFrame 22 rfl) rfl (by decide))
theorem y_b_X8_isFrame (w : eW) (x y : Int) (hx : eI x) (hy : eI y) (hM : MB w) : Cal mX8_isFrame [eR 33, (0, x), (0, y)] w (some (0, if (w 33 28) = 1 ∧ 0 ≤ x ∧ x ≤ (w 33 24) - 1 ∧ 0 ≤ y ∧ y ≤ (w 33 25) - 1 then 1 else 0)) w := by
  obtain ⟨⟨c1, c2, c3, c4, c5, c6, c7, c8, c9, c10⟩, c11, c12, c13⟩ := id hM
  refine Cal.as (zX8_isFrame w x y hx hy hM) ?_ rfl
  unfold rX8_isFrame
  congr 2
  (repeat' split) <;> omega
def rX8_isInside (w : eW) (x y : Int) : Int := if 0 ≤ x ∧ x ≤ ((w 33 24) - 1) then (if 0 ≤ y ∧ y ≤ ((w 33 25) - 1) then (if (w 38 ((14 * y) + x)) = 1 then 1 else 0) else 0) else 0
set_option maxRecDepth 20000 in
theorem zX8_isInside (w : eW) (x y : Int) (hx : eI x) (hy : eI y) (hM : MB w) : Cal mX8_isInside [eR 33, (0, x), (0, y)] w (some (0, rX8_isInside w x y)) w := by
  obtain ⟨⟨c1, c2, c3, c4, c5, c6, c7, c8, c9, c10⟩, c11, c12, c13⟩ := id hM
  have c14 := c11 (14 * y + x)
  unfold rX8_isInside
  refine Cal.of (by decide +kernel) (Nat.le_of_ble_eq_true rfl) ?_
  show Go _ 0 [(0, eR 33), (1, (0, x)), (2, (0, y))] [] _ _ _
  refine go_iload_n (eD DX8_isInside 0 rfl) rfl rfl (go_iconst (eD DX8_isInside 1 rfl) (go_aload_n (eD DX8_isInside 2 rfl) rfl rfl (go_getI (kz := 24) (eD DX8_isInside 3 rfl) fX8_216 (by decide) rfl rfl rfl (go_iconst (eD DX8_isInside 4 rfl) (go_isub (eD DX8_isInside 5 rfl) (go_callS [(0, x), (0, 0), (0, (w 33 24) - 1)] (eD DX8_isInside 6 rfl) ⟨eMem 5 230 rfl rfl, sX8_in⟩ ⟨Nat.le_of_ble_eq_true rfl, Nat.le_of_ble_eq_true rfl⟩ rfl rfl (Nat.le_of_ble_eq_true rfl) (y_b_X8_in w x 0 ((w 33 24) - 1) (by omega) (by decide) (show eI ((w 33 24) - 1) from by omega) ) (?_)))))))
  by_cases h1 : 0 ≤ x ∧ x ≤ ((w 33 24) - 1)
  · refine go_if_eqF (tgt := 47) (eD DX8_isInside 7 rfl) rfl (eI_pI _) (pI1 h1) ?_
    refine go_iload_n (eD DX8_isInside 8 rfl) rfl rfl (go_iconst (eD DX8_isInside 9 rfl) (go_aload_n (eD DX8_isInside 10 rfl) rfl rfl (go_getI (kz := 25) (eD DX8_isInside 11 rfl) fX8_219 (by decide) rfl rfl rfl (go_iconst (eD DX8_isInside 12 rfl) (go_isub (eD DX8_isInside 13 rfl) (go_callS [(0, y), (0, 0), (0, (w 33 25) - 1)] (eD DX8_isInside 14 rfl) ⟨eMem 5 230 rfl rfl, sX8_in⟩ ⟨Nat.le_of_ble_eq_true rfl, Nat.le_of_ble_eq_true rfl⟩ rfl rfl (Nat.le_of_ble_eq_true rfl) (y_b_X8_in w y 0 ((w 33 25) - 1) (by omega) (by decide) (show eI ((w 33 25) - 1) from by omega) ) (?_)))))))
    by_cases h2 : 0 ≤ y ∧ y ≤ ((w 33 25) - 1)
    · refine go_if_eqF (tgt := 47) (eD DX8_isInside 15 rfl) rfl (eI_pI _) (pI1 h2) ?_
      refine go_aload_n (eD DX8_isInside 16 rfl) rfl rfl (go_getR (t := 38) (eD DX8_isInside 17 rfl) fX8_26 (by decide) rfl ⟨rfl, rfl⟩ (go_bipush (eD DX8_isInside 18 rfl) (by decide) (go_iload_n (eD DX8_isInside 19 rfl) rfl rfl (go_imul (eD DX8_isInside 20 rfl) (go_iload_n (eD DX8_isInside 21 rfl) rfl rfl (go_iadd (eD DX8_isInside 22 rfl) (go_iald (n := 144) (eD DX8_isInside 23 rfl) (by decide) rfl (by omega) (go_iconst (eD DX8_isInside 24 rfl) (?_)))))))))
      by_cases h3 : (w 38 ((14 * y) + x)) = 1
      · refine go_icmp_neF (tgt := 47) (eD DX8_isInside 25 rfl) rfl (show eI (w 38 ((14 * y) + x)) from by omega) (by decide) (not_not_intro h3) ?_
        simp only [if_pos h1, if_pos h2, if_pos h3]
        exact go_iconst (eD DX8_isInside 26 rfl) (go_goto (tgt := 48) (eD DX8_isInside 27 rfl) rfl (go_zret (eD DX8_isInside 29 rfl) rfl (by decide)))
      · refine go_icmp_neT (tgt := 47) (eD DX8_isInside 25 rfl) rfl (show eI (w 38 ((14 * y) + x)) from by omega) (by decide) h3 ?_
        simp only [if_pos h1, if_pos h2, if_neg h3]
        exact go_iconst (eD DX8_isInside 28 rfl) (go_zret (eD DX8_isInside 29 rfl) rfl (by decide))
    · refine go_if_eqT (tgt := 47) (eD DX8_isInside 15 rfl) rfl (eI_pI _) (pI0 h2) ?_
      simp only [if_pos h1, if_neg h2]
      exact go_iconst (eD DX8_isInside 28 rfl) (go_zret (eD DX8_isInside 29 rfl) rfl (by decide))
  · refine go_if_eqT (tgt := 47) (eD DX8_isInside 7 rfl) rfl (eI_pI _) (pI0 h1) ?_
    simp only [if_neg h1]
    exact go_iconst (eD DX8_isInside 28 rfl) (go_zret (eD DX8_isInside 29 rfl) rfl (by decide))
theorem y_b_X8_isInside (w : eW) (x y : Int) (hx : eI x) (hy : eI y) (hM : MB w) : Cal mX8_isInside [eR 33, (0, x), (0, y)] w (some (0, if insM w x y then 1 else 0)) w := by
  refine Cal.as (zX8_isInside w x y hx hy hM) ?_ rfl
  unfold rX8_isInside
  congr 2
  (repeat' split) <;> omega
def rX8_speedOf (w : eW) (side : Int) : Int := w 38 (140 + side)
set_option maxRecDepth 20000 in
theorem zX8_speedOf (w : eW) (side : Int) (hside : eI side) (hs : 0 ≤ side ∧ side < 4) : Cal mX8_speedOf [eR 33, (0, side)] w (some (0, rX8_speedOf w side)) w := by
  unfold rX8_speedOf
  refine Cal.of (by decide +kernel) (Nat.le_of_ble_eq_true rfl) ?_
  show Go _ 0 [(0, eR 33), (1, (0, side))] [] _ _ _
  exact go_aload_n (eD DX8_speedOf 0 rfl) rfl rfl (go_getR (t := 38) (eD DX8_speedOf 1 rfl) fX8_26 (by decide) rfl ⟨rfl, rfl⟩ (go_sipush (eD DX8_speedOf 2 rfl) (by decide) (go_iload_n (eD DX8_speedOf 3 rfl) rfl rfl (go_iadd (eD DX8_speedOf 4 rfl) (go_iald (n := 144) (eD DX8_speedOf 5 rfl) (by decide) rfl (by omega) (go_iret (eD DX8_speedOf 6 rfl) rfl))))))
def rX8_thrown (w : eW) : Int := w 33 0
set_option maxRecDepth 20000 in
theorem zX8_thrown (w : eW) : Cal mX8_thrown [eR 33] w (some (0, rX8_thrown w)) w := by
  unfold rX8_thrown
  refine Cal.of (by decide +kernel) (Nat.le_of_ble_eq_true rfl) ?_
  show Go _ 0 [(0, eR 33)] [] _ _ _
  exact go_aload_n (eD DX8_thrown 0 rfl) rfl rfl (go_getI (kz := 0) (eD DX8_thrown 1 rfl) fX8_95 (by decide) rfl rfl rfl (go_iret (eD DX8_thrown 2 rfl) rfl))
def rX8_fault (w : eW) : Int := w 33 7
def wX8_fault (w : eW) : eW := (eU w 33 0 0)
set_option maxRecDepth 20000 in
theorem zX8_fault (w : eW) : Cal mX8_fault [eR 33] w (some (0, rX8_fault w)) (wX8_fault w) := by
  unfold rX8_fault wX8_fault
  refine Cal.of (by decide +kernel) (Nat.le_of_ble_eq_true rfl) ?_
  show Go _ 0 [(0, eR 33)] [] _ _ _
  exact go_aload_n (eD DX8_fault 0 rfl) rfl rfl (go_iconst (eD DX8_fault 1 rfl) (go_putI (kz := 0) (eD DX8_fault 2 rfl) fX8_95 (by decide) rfl rfl (fun q h => by cases h; exact ⟨rfl, rfl⟩) rfl (go_aload_n (eD DX8_fault 3 rfl) rfl rfl (go_getI (kz := 7) (eD DX8_fault 4 rfl) fX8_104 (by decide) rfl rfl rfl (go_iret (eD DX8_fault 5 rfl) rfl)))))
def rX8_where (w : eW) : Int := w 33 2
def wX8_where (w : eW) : eW := (eU w 33 0 0)
set_option maxRecDepth 20000 in
theorem zX8_where (w : eW) : Cal mX8_where [eR 33] w (some (0, rX8_where w)) (wX8_where w) := by
  unfold rX8_where wX8_where
  refine Cal.of (by decide +kernel) (Nat.le_of_ble_eq_true rfl) ?_
  show Go _ 0 [(0, eR 33)] [] _ _ _
  exact go_aload_n (eD DX8_where 0 rfl) rfl rfl (go_iconst (eD DX8_where 1 rfl) (go_putI (kz := 0) (eD DX8_where 2 rfl) fX8_95 (by decide) rfl rfl (fun q h => by cases h; exact ⟨rfl, rfl⟩) rfl (go_aload_n (eD DX8_where 3 rfl) rfl rfl (go_getI (kz := 2) (eD DX8_where 4 rfl) fX8_9 (by decide) rfl rfl rfl (go_iret (eD DX8_where 5 rfl) rfl)))))
def rX8_bytes (w : eW) : Int := w 33 4
def wX8_bytes (w : eW) : eW := (eU w 33 0 0)
set_option maxRecDepth 20000 in
theorem zX8_bytes (w : eW) : Cal mX8_bytes [eR 33] w (some (0, rX8_bytes w)) (wX8_bytes w) := by
  unfold rX8_bytes wX8_bytes
  refine Cal.of (by decide +kernel) (Nat.le_of_ble_eq_true rfl) ?_
  show Go _ 0 [(0, eR 33)] [] _ _ _
  exact go_aload_n (eD DX8_bytes 0 rfl) rfl rfl (go_iconst (eD DX8_bytes 1 rfl) (go_putI (kz := 0) (eD DX8_bytes 2 rfl) fX8_95 (by decide) rfl rfl (fun q h => by cases h; exact ⟨rfl, rfl⟩) rfl (go_aload_n (eD DX8_bytes 3 rfl) rfl rfl (go_getI (kz := 4) (eD DX8_bytes 4 rfl) fX8_101 (by decide) rfl rfl rfl (go_iret (eD DX8_bytes 5 rfl) rfl)))))
def rX8_trouble (w : eW) : Int := w 33 1
def wX8_trouble (w : eW) : eW := (eU w 33 0 0)
set_option maxRecDepth 20000 in
theorem zX8_trouble (w : eW) : Cal mX8_trouble [eR 33] w (some (0, rX8_trouble w)) (wX8_trouble w) := by
  unfold rX8_trouble wX8_trouble
  refine Cal.of (by decide +kernel) (Nat.le_of_ble_eq_true rfl) ?_
  show Go _ 0 [(0, eR 33)] [] _ _ _
  exact go_aload_n (eD DX8_trouble 0 rfl) rfl rfl (go_iconst (eD DX8_trouble 1 rfl) (go_putI (kz := 0) (eD DX8_trouble 2 rfl) fX8_95 (by decide) rfl rfl (fun q h => by cases h; exact ⟨rfl, rfl⟩) rfl (go_aload_n (eD DX8_trouble 3 rfl) rfl rfl (go_getI (kz := 1) (eD DX8_trouble 4 rfl) fX8_98 (by decide) rfl rfl rfl (go_iret (eD DX8_trouble 5 rfl) rfl)))))
def rX8_refused (w : eW) (why : Int) : Int := (-1)
def wX8_refused (w : eW) (why : Int) : eW := (eU (eU w 33 1 why) 33 2 (-1))
set_option maxRecDepth 20000 in
theorem zX8_refused (w : eW) (why : Int) : Cal mX8_refused [eR 33, (0, why)] w (some (0, rX8_refused w why)) (wX8_refused w why) := by
  unfold rX8_refused wX8_refused
  refine Cal.of (by decide +kernel) (Nat.le_of_ble_eq_true rfl) ?_
  show Go _ 0 [(0, eR 33), (1, (0, why))] [] _ _ _
  exact go_aload_n (eD DX8_refused 0 rfl) rfl rfl (go_iload_n (eD DX8_refused 1 rfl) rfl rfl (go_putI (kz := 1) (eD DX8_refused 2 rfl) fX8_98 (by decide) rfl rfl (fun q h => by cases h; exact ⟨rfl, rfl⟩) rfl (go_aload_n (eD DX8_refused 3 rfl) rfl rfl (go_iconst (eD DX8_refused 4 rfl) (go_putI (kz := 2) (eD DX8_refused 5 rfl) fX8_9 (by decide) rfl rfl (fun q h => by cases h; exact ⟨rfl, rfl⟩) rfl (go_iconst (eD DX8_refused 6 rfl) (go_iret (eD DX8_refused 7 rfl) rfl)))))))
def rX8_good (w : eW) (v : Int) : Int := v
def wX8_good (w : eW) (v : Int) : eW := (eU (eU w 33 1 0) 33 2 (-1))
set_option maxRecDepth 20000 in
theorem zX8_good (w : eW) (v : Int) : Cal mX8_good [eR 33, (0, v)] w (some (0, rX8_good w v)) (wX8_good w v) := by
  unfold rX8_good wX8_good
  refine Cal.of (by decide +kernel) (Nat.le_of_ble_eq_true rfl) ?_
  show Go _ 0 [(0, eR 33), (1, (0, v))] [] _ _ _
  exact go_aload_n (eD DX8_good 0 rfl) rfl rfl (go_iconst (eD DX8_good 1 rfl) (go_putI (kz := 1) (eD DX8_good 2 rfl) fX8_98 (by decide) rfl rfl (fun q h => by cases h; exact ⟨rfl, rfl⟩) rfl (go_aload_n (eD DX8_good 3 rfl) rfl rfl (go_iconst (eD DX8_good 4 rfl) (go_putI (kz := 2) (eD DX8_good 5 rfl) fX8_9 (by decide) rfl rfl (fun q h => by cases h; exact ⟨rfl, rfl⟩) rfl (go_iload_n (eD DX8_good 6 rfl) rfl rfl (go_iret (eD DX8_good 7 rfl) rfl)))))))
def rX8_says (w : eW) (v : Int) : Int := v
def wX8_says (w : eW) (v : Int) : eW := (eU (eU w 33 1 0) 33 2 (-1))
set_option maxRecDepth 20000 in
theorem zX8_says (w : eW) (v : Int) : Cal mX8_says [eR 33, (1, v)] w (some (1, rX8_says w v)) (wX8_says w v) := by
  unfold rX8_says wX8_says
  refine Cal.of (by decide +kernel) (Nat.le_of_ble_eq_true rfl) ?_
  show Go _ 0 [(0, eR 33), (1, (1, v))] [] _ _ _
  exact go_aload_n (eD DX8_says 0 rfl) rfl rfl (go_iconst (eD DX8_says 1 rfl) (go_putI (kz := 1) (eD DX8_says 2 rfl) fX8_98 (by decide) rfl rfl (fun q h => by cases h; exact ⟨rfl, rfl⟩) rfl (go_aload_n (eD DX8_says 3 rfl) rfl rfl (go_iconst (eD DX8_says 4 rfl) (go_putI (kz := 2) (eD DX8_says 5 rfl) fX8_9 (by decide) rfl rfl (fun q h => by cases h; exact ⟨rfl, rfl⟩) rfl (go_lload_n (eD DX8_says 6 rfl) rfl rfl (go_lret (eD DX8_says 7 rfl) rfl)))))))
def rX8_besideX (w : eW) (x side : Int) : Int := if side = 1 then (x + 1) else (if side = 3 then (x - 1) else x)
set_option maxRecDepth 20000 in
theorem zX8_besideX (w : eW) (x side : Int) (hside : eI side) : Cal mX8_besideX [(0, x), (0, side)] w (some (0, rX8_besideX w x side)) w := by
  unfold rX8_besideX
  refine Cal.of (by decide +kernel) (Nat.le_of_ble_eq_true rfl) ?_
  show Go _ 0 [(0, (0, x)), (1, (0, side))] [] _ _ _
  refine go_iload_n (eD DX8_besideX 0 rfl) rfl rfl (go_iconst (eD DX8_besideX 1 rfl) (?_))
  by_cases h1 : side = 1
  · refine go_icmp_neF (tgt := 11) (eD DX8_besideX 2 rfl) rfl (by omega) (by decide) (not_not_intro h1) ?_
    simp only [if_pos h1]
    exact go_iload_n (eD DX8_besideX 3 rfl) rfl rfl (go_iconst (eD DX8_besideX 4 rfl) (go_iadd (eD DX8_besideX 5 rfl) (go_goto (tgt := 23) (eD DX8_besideX 6 rfl) rfl (go_iret (eD DX8_besideX 15 rfl) rfl))))
  · refine go_icmp_neT (tgt := 11) (eD DX8_besideX 2 rfl) rfl (by omega) (by decide) h1 ?_
    refine go_iload_n (eD DX8_besideX 7 rfl) rfl rfl (go_iconst (eD DX8_besideX 8 rfl) (?_))
    by_cases h2 : side = 3
    · refine go_icmp_neF (tgt := 22) (eD DX8_besideX 9 rfl) rfl (by omega) (by decide) (not_not_intro h2) ?_
      simp only [if_neg h1, if_pos h2]
      exact go_iload_n (eD DX8_besideX 10 rfl) rfl rfl (go_iconst (eD DX8_besideX 11 rfl) (go_isub (eD DX8_besideX 12 rfl) (go_goto (tgt := 23) (eD DX8_besideX 13 rfl) rfl (go_iret (eD DX8_besideX 15 rfl) rfl))))
    · refine go_icmp_neT (tgt := 22) (eD DX8_besideX 9 rfl) rfl (by omega) (by decide) h2 ?_
      simp only [if_neg h1, if_neg h2]
      exact go_iload_n (eD DX8_besideX 14 rfl) rfl rfl (go_iret (eD DX8_besideX 15 rfl) rfl)
def rX8_besideY (w : eW) (y side : Int) : Int := if side = 0 then (y - 1) else (if side = 2 then (y + 1) else y)
set_option maxRecDepth 20000 in
theorem zX8_besideY (w : eW) (y side : Int) (hside : eI side) : Cal mX8_besideY [(0, y), (0, side)] w (some (0, rX8_besideY w y side)) w := by
  unfold rX8_besideY
  refine Cal.of (by decide +kernel) (Nat.le_of_ble_eq_true rfl) ?_
  show Go _ 0 [(0, (0, y)), (1, (0, side))] [] _ _ _
  refine go_iload_n (eD DX8_besideY 0 rfl) rfl rfl (?_)
  by_cases h1 : side = 0
  · refine go_if_neF (tgt := 10) (eD DX8_besideY 1 rfl) rfl (by omega) (not_not_intro h1) ?_
    simp only [if_pos h1]
    exact go_iload_n (eD DX8_besideY 2 rfl) rfl rfl (go_iconst (eD DX8_besideY 3 rfl) (go_isub (eD DX8_besideY 4 rfl) (go_goto (tgt := 22) (eD DX8_besideY 5 rfl) rfl (go_iret (eD DX8_besideY 14 rfl) rfl))))
  · refine go_if_neT (tgt := 10) (eD DX8_besideY 1 rfl) rfl (by omega) h1 ?_
    refine go_iload_n (eD DX8_besideY 6 rfl) rfl rfl (go_iconst (eD DX8_besideY 7 rfl) (?_))
    by_cases h2 : side = 2
    · refine go_icmp_neF (tgt := 21) (eD DX8_besideY 8 rfl) rfl (by omega) (by decide) (not_not_intro h2) ?_
      simp only [if_neg h1, if_pos h2]
      exact go_iload_n (eD DX8_besideY 9 rfl) rfl rfl (go_iconst (eD DX8_besideY 10 rfl) (go_iadd (eD DX8_besideY 11 rfl) (go_goto (tgt := 22) (eD DX8_besideY 12 rfl) rfl (go_iret (eD DX8_besideY 14 rfl) rfl))))
    · refine go_icmp_neT (tgt := 21) (eD DX8_besideY 8 rfl) rfl (by omega) (by decide) h2 ?_
      simp only [if_neg h1, if_neg h2]
      exact go_iload_n (eD DX8_besideY 13 rfl) rfl rfl (go_iret (eD DX8_besideY 14 rfl) rfl)
def rX8_isTime (w : eW) (a b : Int) : Int := if 0 ≤ a ∧ a ≤ 9999 then (if 1 ≤ b ∧ b ≤ 9999 then 1 else 0) else 0
set_option maxRecDepth 20000 in
theorem zX8_isTime (w : eW) (a b : Int) (ha : eI a) (hb : eI b) : Cal mX8_isTime [(0, a), (0, b)] w (some (0, rX8_isTime w a b)) w := by
  unfold rX8_isTime
  refine Cal.of (by decide +kernel) (Nat.le_of_ble_eq_true rfl) ?_
  show Go _ 0 [(0, (0, a)), (1, (0, b))] [] _ _ _
  refine go_iload_n (eD DX8_isTime 0 rfl) rfl rfl (go_iconst (eD DX8_isTime 1 rfl) (go_sipush (eD DX8_isTime 2 rfl) (by decide) (go_callS [(0, a), (0, 0), (0, 9999)] (eD DX8_isTime 3 rfl) ⟨eMem 5 230 rfl rfl, sX8_in⟩ ⟨Nat.le_of_ble_eq_true rfl, Nat.le_of_ble_eq_true rfl⟩ rfl rfl (Nat.le_of_ble_eq_true rfl) (y_b_X8_in w a 0 9999 (by omega) (by decide) (by decide) ) (?_))))
  by_cases h1 : 0 ≤ a ∧ a ≤ 9999
  · refine go_if_eqF (tgt := 26) (eD DX8_isTime 4 rfl) rfl (eI_pI _) (pI1 h1) ?_
    refine go_iload_n (eD DX8_isTime 5 rfl) rfl rfl (go_iconst (eD DX8_isTime 6 rfl) (go_sipush (eD DX8_isTime 7 rfl) (by decide) (go_callS [(0, b), (0, 1), (0, 9999)] (eD DX8_isTime 8 rfl) ⟨eMem 5 230 rfl rfl, sX8_in⟩ ⟨Nat.le_of_ble_eq_true rfl, Nat.le_of_ble_eq_true rfl⟩ rfl rfl (Nat.le_of_ble_eq_true rfl) (y_b_X8_in w b 1 9999 (by omega) (by decide) (by decide) ) (?_))))
    by_cases h2 : 1 ≤ b ∧ b ≤ 9999
    · refine go_if_eqF (tgt := 26) (eD DX8_isTime 9 rfl) rfl (eI_pI _) (pI1 h2) ?_
      simp only [if_pos h1, if_pos h2]
      exact go_iconst (eD DX8_isTime 10 rfl) (go_goto (tgt := 27) (eD DX8_isTime 11 rfl) rfl (go_zret (eD DX8_isTime 13 rfl) rfl (by decide)))
    · refine go_if_eqT (tgt := 26) (eD DX8_isTime 9 rfl) rfl (eI_pI _) (pI0 h2) ?_
      simp only [if_pos h1, if_neg h2]
      exact go_iconst (eD DX8_isTime 12 rfl) (go_zret (eD DX8_isTime 13 rfl) rfl (by decide))
  · refine go_if_eqT (tgt := 26) (eD DX8_isTime 4 rfl) rfl (eI_pI _) (pI0 h1) ?_
    simp only [if_neg h1]
    exact go_iconst (eD DX8_isTime 12 rfl) (go_zret (eD DX8_isTime 13 rfl) rfl (by decide))
theorem y_b_X8_isTime (w : eW) (a b : Int) (ha : eI a) (hb : eI b) : Cal mX8_isTime [(0, a), (0, b)] w (some (0, if 0 ≤ a ∧ a ≤ 9999 ∧ 1 ≤ b ∧ b ≤ 9999 then 1 else 0)) w := by
  refine Cal.as (zX8_isTime w a b ha hb) ?_ rfl
  unfold rX8_isTime
  congr 2
  (repeat' split) <;> omega
def rX8_isPoint (w : eW) (px py : Int) : Int := if 0 ≤ px ∧ px ≤ (4 * (w 33 24)) then (if 0 ≤ py ∧ py ≤ (4 * (w 33 25)) then 1 else 0) else 0
set_option maxRecDepth 20000 in
theorem zX8_isPoint (w : eW) (px py : Int) (hpx : eI px) (hpy : eI py) (hM : MB w) : Cal mX8_isPoint [eR 33, (0, px), (0, py)] w (some (0, rX8_isPoint w px py)) w := by
  obtain ⟨⟨c1, c2, c3, c4, c5, c6, c7, c8, c9, c10⟩, c11, c12, c13⟩ := id hM
  unfold rX8_isPoint
  refine Cal.of (by decide +kernel) (Nat.le_of_ble_eq_true rfl) ?_
  show Go _ 0 [(0, eR 33), (1, (0, px)), (2, (0, py))] [] _ _ _
  refine go_iload_n (eD DX8_isPoint 0 rfl) rfl rfl (go_iconst (eD DX8_isPoint 1 rfl) (go_iconst (eD DX8_isPoint 2 rfl) (go_aload_n (eD DX8_isPoint 3 rfl) rfl rfl (go_getI (kz := 24) (eD DX8_isPoint 4 rfl) fX8_216 (by decide) rfl rfl rfl (go_imul (eD DX8_isPoint 5 rfl) (go_callS [(0, px), (0, 0), (0, 4 * (w 33 24))] (eD DX8_isPoint 6 rfl) ⟨eMem 5 230 rfl rfl, sX8_in⟩ ⟨Nat.le_of_ble_eq_true rfl, Nat.le_of_ble_eq_true rfl⟩ rfl rfl (Nat.le_of_ble_eq_true rfl) (y_b_X8_in w px 0 (4 * (w 33 24)) (by omega) (by decide) (show eI (4 * (w 33 24)) from by omega) ) (?_)))))))
  by_cases h1 : 0 ≤ px ∧ px ≤ (4 * (w 33 24))
  · refine go_if_eqF (tgt := 32) (eD DX8_isPoint 7 rfl) rfl (eI_pI _) (pI1 h1) ?_
    refine go_iload_n (eD DX8_isPoint 8 rfl) rfl rfl (go_iconst (eD DX8_isPoint 9 rfl) (go_iconst (eD DX8_isPoint 10 rfl) (go_aload_n (eD DX8_isPoint 11 rfl) rfl rfl (go_getI (kz := 25) (eD DX8_isPoint 12 rfl) fX8_219 (by decide) rfl rfl rfl (go_imul (eD DX8_isPoint 13 rfl) (go_callS [(0, py), (0, 0), (0, 4 * (w 33 25))] (eD DX8_isPoint 14 rfl) ⟨eMem 5 230 rfl rfl, sX8_in⟩ ⟨Nat.le_of_ble_eq_true rfl, Nat.le_of_ble_eq_true rfl⟩ rfl rfl (Nat.le_of_ble_eq_true rfl) (y_b_X8_in w py 0 (4 * (w 33 25)) (by omega) (by decide) (show eI (4 * (w 33 25)) from by omega) ) (?_)))))))
    by_cases h2 : 0 ≤ py ∧ py ≤ (4 * (w 33 25))
    · refine go_if_eqF (tgt := 32) (eD DX8_isPoint 15 rfl) rfl (eI_pI _) (pI1 h2) ?_
      simp only [if_pos h1, if_pos h2]
      exact go_iconst (eD DX8_isPoint 16 rfl) (go_goto (tgt := 33) (eD DX8_isPoint 17 rfl) rfl (go_zret (eD DX8_isPoint 19 rfl) rfl (by decide)))
    · refine go_if_eqT (tgt := 32) (eD DX8_isPoint 15 rfl) rfl (eI_pI _) (pI0 h2) ?_
      simp only [if_pos h1, if_neg h2]
      exact go_iconst (eD DX8_isPoint 18 rfl) (go_zret (eD DX8_isPoint 19 rfl) rfl (by decide))
  · refine go_if_eqT (tgt := 32) (eD DX8_isPoint 7 rfl) rfl (eI_pI _) (pI0 h1) ?_
    simp only [if_neg h1]
    exact go_iconst (eD DX8_isPoint 18 rfl) (go_zret (eD DX8_isPoint 19 rfl) rfl (by decide))
theorem y_b_X8_isPoint (w : eW) (px py : Int) (hpx : eI px) (hpy : eI py) (hM : MB w) : Cal mX8_isPoint [eR 33, (0, px), (0, py)] w (some (0, if 0 ≤ px ∧ px ≤ 4 * (w 33 24) ∧ 0 ≤ py ∧ py ≤ 4 * (w 33 25) then 1 else 0)) w := by
  obtain ⟨⟨c1, c2, c3, c4, c5, c6, c7, c8, c9, c10⟩, c11, c12, c13⟩ := id hM
  refine Cal.as (zX8_isPoint w px py hpx hpy hM) ?_ rfl
  unfold rX8_isPoint
  congr 2
  (repeat' split) <;> omega
def rX7_fault (w : eW) : Int := w 0 3
set_option maxRecDepth 20000 in
theorem zX7_fault (w : eW) : Cal mX7_fault [eR 0] w (some (0, rX7_fault w)) w := by
  unfold rX7_fault
  refine Cal.of (by decide +kernel) (Nat.le_of_ble_eq_true rfl) ?_
  show Go _ 0 [(0, eR 0)] [] _ _ _
  exact go_aload_n (eD DX7_fault 0 rfl) rfl rfl (go_getI (kz := 3) (eD DX7_fault 1 rfl) fX7_20 (by decide) rfl rfl rfl (go_iret (eD DX7_fault 2 rfl) rfl))
def rX7_bytes (w : eW) : Int := w 0 1
set_option maxRecDepth 20000 in
theorem zX7_bytes (w : eW) : Cal mX7_bytes [eR 0] w (some (0, rX7_bytes w)) w := by
  unfold rX7_bytes
  refine Cal.of (by decide +kernel) (Nat.le_of_ble_eq_true rfl) ?_
  show Go _ 0 [(0, eR 0)] [] _ _ _
  exact go_aload_n (eD DX7_bytes 0 rfl) rfl rfl (go_getI (kz := 1) (eD DX7_bytes 1 rfl) fX7_13 (by decide) rfl rfl rfl (go_iret (eD DX7_bytes 2 rfl) rfl))
def rX7_trouble (w : eW) : Int := w 0 2
set_option maxRecDepth 20000 in
theorem zX7_trouble (w : eW) : Cal mX7_trouble [eR 0] w (some (0, rX7_trouble w)) w := by
  unfold rX7_trouble
  refine Cal.of (by decide +kernel) (Nat.le_of_ble_eq_true rfl) ?_
  show Go _ 0 [(0, eR 0)] [] _ _ _
  exact go_aload_n (eD DX7_trouble 0 rfl) rfl rfl (go_getI (kz := 2) (eD DX7_trouble 1 rfl) fX7_17 (by decide) rfl rfl rfl (go_iret (eD DX7_trouble 2 rfl) rfl))
def rX7_where (w : eW) : Int := if (w 0 2) = 4 then (w 0 4) else (-1)
set_option maxRecDepth 20000 in
theorem zX7_where (w : eW) (h2 : eI (w 0 2)) : Cal mX7_where [eR 0] w (some (0, rX7_where w)) w := by
  unfold rX7_where
  refine Cal.of (by decide +kernel) (Nat.le_of_ble_eq_true rfl) ?_
  show Go _ 0 [(0, eR 0)] [] _ _ _
  refine go_aload_n (eD DX7_where 0 rfl) rfl rfl (go_getI (kz := 2) (eD DX7_where 1 rfl) fX7_17 (by decide) rfl rfl rfl (go_iconst (eD DX7_where 2 rfl) (?_)))
  by_cases h1 : (w 0 2) = 4
  · refine go_icmp_neF (tgt := 15) (eD DX7_where 3 rfl) rfl (show eI (w 0 2) from by omega) (by decide) (not_not_intro h1) ?_
    simp only [if_pos h1]
    exact go_aload_n (eD DX7_where 4 rfl) rfl rfl (go_getI (kz := 4) (eD DX7_where 5 rfl) fX7_23 (by decide) rfl rfl rfl (go_goto (tgt := 16) (eD DX7_where 6 rfl) rfl (go_iret (eD DX7_where 8 rfl) rfl)))
  · refine go_icmp_neT (tgt := 15) (eD DX7_where 3 rfl) rfl (show eI (w 0 2) from by omega) (by decide) h1 ?_
    simp only [if_neg h1]
    exact go_iconst (eD DX7_where 7 rfl) (go_iret (eD DX7_where 8 rfl) rfl)
def rX7_refuse (w : eW) (number : Int) : Int := (-1)
def wX7_refuse (w : eW) (number : Int) : eW := (eU w 0 2 number)
set_option maxRecDepth 20000 in
theorem zX7_refuse (w : eW) (number : Int) : Cal mX7_refuse [eR 0, (0, number)] w (some (0, rX7_refuse w number)) (wX7_refuse w number) := by
  unfold rX7_refuse wX7_refuse
  refine Cal.of (by decide +kernel) (Nat.le_of_ble_eq_true rfl) ?_
  show Go _ 0 [(0, eR 0), (1, (0, number))] [] _ _ _
  exact go_aload_n (eD DX7_refuse 0 rfl) rfl rfl (go_iload_n (eD DX7_refuse 1 rfl) rfl rfl (go_putI (kz := 2) (eD DX7_refuse 2 rfl) fX7_17 (by decide) rfl rfl (fun q h => by cases h; exact ⟨rfl, rfl⟩) rfl (go_iconst (eD DX7_refuse 3 rfl) (go_iret (eD DX7_refuse 4 rfl) rfl))))
def rX7_answer (w : eW) (value : Int) : Int := value
def wX7_answer (w : eW) (value : Int) : eW := (eU w 0 2 0)
set_option maxRecDepth 20000 in
theorem zX7_answer (w : eW) (value : Int) : Cal mX7_answer [eR 0, (0, value)] w (some (0, rX7_answer w value)) (wX7_answer w value) := by
  unfold rX7_answer wX7_answer
  refine Cal.of (by decide +kernel) (Nat.le_of_ble_eq_true rfl) ?_
  show Go _ 0 [(0, eR 0), (1, (0, value))] [] _ _ _
  exact go_aload_n (eD DX7_answer 0 rfl) rfl rfl (go_iconst (eD DX7_answer 1 rfl) (go_putI (kz := 2) (eD DX7_answer 2 rfl) fX7_17 (by decide) rfl rfl (fun q h => by cases h; exact ⟨rfl, rfl⟩) rfl (go_iload_n (eD DX7_answer 3 rfl) rfl rfl (go_iret (eD DX7_answer 4 rfl) rfl))))
def rX7_answerLong (w : eW) (value : Int) : Int := value
def wX7_answerLong (w : eW) (value : Int) : eW := (eU w 0 2 0)
set_option maxRecDepth 20000 in
theorem zX7_answerLong (w : eW) (value : Int) : Cal mX7_answerLong [eR 0, (1, value)] w (some (1, rX7_answerLong w value)) (wX7_answerLong w value) := by
  unfold rX7_answerLong wX7_answerLong
  refine Cal.of (by decide +kernel) (Nat.le_of_ble_eq_true rfl) ?_
  show Go _ 0 [(0, eR 0), (1, (1, value))] [] _ _ _
  exact go_aload_n (eD DX7_answerLong 0 rfl) rfl rfl (go_iconst (eD DX7_answerLong 1 rfl) (go_putI (kz := 2) (eD DX7_answerLong 2 rfl) fX7_17 (by decide) rfl rfl (fun q h => by cases h; exact ⟨rfl, rfl⟩) rfl (go_lload_n (eD DX7_answerLong 3 rfl) rfl rfl (go_lret (eD DX7_answerLong 4 rfl) rfl))))
def rX7_isSide (w : eW) (side : Int) : Int := if side < 0 then 0 else (if side < 4 then 1 else 0)
set_option maxRecDepth 20000 in
theorem zX7_isSide (w : eW) (side : Int) (hside : eI side) : Cal mX7_isSide [(0, side)] w (some (0, rX7_isSide w side)) w := by
  unfold rX7_isSide
  refine Cal.of (by decide +kernel) (Nat.le_of_ble_eq_true rfl) ?_
  show Go _ 0 [(0, (0, side))] [] _ _ _
  refine go_iload_n (eD DX7_isSide 0 rfl) rfl rfl (?_)
  by_cases h1 : side < 0
  · refine go_if_ltT (tgt := 13) (eD DX7_isSide 1 rfl) rfl (by omega) h1 ?_
    simp only [if_pos h1]
    exact go_iconst (eD DX7_isSide 7 rfl) (go_zret (eD DX7_isSide 8 rfl) rfl (by decide))
  · refine go_if_ltF (tgt := 13) (eD DX7_isSide 1 rfl) rfl (by omega) h1 ?_
    refine go_iload_n (eD DX7_isSide 2 rfl) rfl rfl (go_iconst (eD DX7_isSide 3 rfl) (?_))
    by_cases h2 : side < 4
    · refine go_icmp_geF (tgt := 13) (eD DX7_isSide 4 rfl) rfl (by omega) (by decide) (Int.not_le.mpr h2) ?_
      simp only [if_neg h1, if_pos h2]
      exact go_iconst (eD DX7_isSide 5 rfl) (go_goto (tgt := 14) (eD DX7_isSide 6 rfl) rfl (go_zret (eD DX7_isSide 8 rfl) rfl (by decide)))
    · refine go_icmp_geT (tgt := 13) (eD DX7_isSide 4 rfl) rfl (by omega) (by decide) (Int.not_lt.mp h2) ?_
      simp only [if_neg h1, if_neg h2]
      exact go_iconst (eD DX7_isSide 7 rfl) (go_zret (eD DX7_isSide 8 rfl) rfl (by decide))
theorem y_b_X7_isSide (w : eW) (side : Int) (hside : eI side) : Cal mX7_isSide [(0, side)] w (some (0, if 0 ≤ side ∧ side < 4 then 1 else 0)) w := by
  refine Cal.as (zX7_isSide w side hside) ?_ rfl
  unfold rX7_isSide
  congr 2
  (repeat' split) <;> omega
def rX7_isPartOfTwo (w : eW) (what : Int) : Int := if what = 0 then 1 else (if what = 1 then 1 else 0)
set_option maxRecDepth 20000 in
theorem zX7_isPartOfTwo (w : eW) (what : Int) (hwhat : eI what) : Cal mX7_isPartOfTwo [(0, what)] w (some (0, rX7_isPartOfTwo w what)) w := by
  unfold rX7_isPartOfTwo
  refine Cal.of (by decide +kernel) (Nat.le_of_ble_eq_true rfl) ?_
  show Go _ 0 [(0, (0, what))] [] _ _ _
  refine go_iload_n (eD DX7_isPartOfTwo 0 rfl) rfl rfl (?_)
  by_cases h1 : what = 0
  · refine go_if_eqT (tgt := 9) (eD DX7_isPartOfTwo 1 rfl) rfl (by omega) h1 ?_
    simp only [if_pos h1]
    exact go_iconst (eD DX7_isPartOfTwo 5 rfl) (go_goto (tgt := 14) (eD DX7_isPartOfTwo 6 rfl) rfl (go_zret (eD DX7_isPartOfTwo 8 rfl) rfl (by decide)))
  · refine go_if_eqF (tgt := 9) (eD DX7_isPartOfTwo 1 rfl) rfl (by omega) h1 ?_
    refine go_iload_n (eD DX7_isPartOfTwo 2 rfl) rfl rfl (go_iconst (eD DX7_isPartOfTwo 3 rfl) (?_))
    by_cases h2 : what = 1
    · refine go_icmp_neF (tgt := 13) (eD DX7_isPartOfTwo 4 rfl) rfl (by omega) (by decide) (not_not_intro h2) ?_
      simp only [if_neg h1, if_pos h2]
      exact go_iconst (eD DX7_isPartOfTwo 5 rfl) (go_goto (tgt := 14) (eD DX7_isPartOfTwo 6 rfl) rfl (go_zret (eD DX7_isPartOfTwo 8 rfl) rfl (by decide)))
    · refine go_icmp_neT (tgt := 13) (eD DX7_isPartOfTwo 4 rfl) rfl (by omega) (by decide) h2 ?_
      simp only [if_neg h1, if_neg h2]
      exact go_iconst (eD DX7_isPartOfTwo 7 rfl) (go_zret (eD DX7_isPartOfTwo 8 rfl) rfl (by decide))
theorem y_b_X7_isPartOfTwo (w : eW) (what : Int) (hwhat : eI what) : Cal mX7_isPartOfTwo [(0, what)] w (some (0, if what = 0 ∨ what = 1 then 1 else 0)) w := by
  refine Cal.as (zX7_isPartOfTwo w what hwhat) ?_ rfl
  unfold rX7_isPartOfTwo
  congr 2
  (repeat' split) <;> omega
def wX5_forget (w : eW) : eW := (eU (eU (eU w 16 9 0) 16 10 0) 16 11 0)
set_option maxRecDepth 20000 in
theorem zX5_forget (w : eW) : Cal mX5_forget [eR 16] w none (wX5_forget w) := by
  unfold wX5_forget
  refine Cal.of (by decide +kernel) (Nat.le_of_ble_eq_true rfl) ?_
  show Go _ 0 [(0, eR 16)] [] _ _ _
  exact go_aload_n (eD DX5_forget 0 rfl) rfl rfl (go_iconst (eD DX5_forget 1 rfl) (go_putZ (kz := 9) (eD DX5_forget 2 rfl) fX5_35 (by decide) rfl rfl (fun q h => by cases h; exact ⟨rfl, rfl⟩) rfl (by decide) (go_aload_n (eD DX5_forget 3 rfl) rfl rfl (go_iconst (eD DX5_forget 4 rfl) (go_putZ (kz := 10) (eD DX5_forget 5 rfl) fX5_39 (by decide) rfl rfl (fun q h => by cases h; exact ⟨rfl, rfl⟩) rfl (by decide) (go_aload_n (eD DX5_forget 6 rfl) rfl rfl (go_iconst (eD DX5_forget 7 rfl) (go_putZ (kz := 11) (eD DX5_forget 8 rfl) fX5_42 (by decide) rfl rfl (fun q h => by cases h; exact ⟨rfl, rfl⟩) rfl (by decide) (go_vret (eD DX5_forget 9 rfl) rfl)))))))))
def wX7_forgetMeasures (w : eW) : eW := (eU (eU (eU (eU (eU w 13 4 0) 16 9 0) 16 10 0) 16 11 0) 24 9 0)
set_option maxRecDepth 20000 in
theorem zX7_forgetMeasures (w : eW) : Cal mX7_forgetMeasures [eR 0] w none (wX7_forgetMeasures w) := by
  unfold wX7_forgetMeasures
  refine Cal.of (by decide +kernel) (Nat.le_of_ble_eq_true rfl) ?_
  show Go _ 0 [(0, eR 0)] [] _ _ _
  refine go_aload_n (eD DX7_forgetMeasures 0 rfl) rfl rfl (go_getR (t := 13) (eD DX7_forgetMeasures 1 rfl) fX7_54 (by decide) rfl ⟨rfl, rfl⟩ (go_iconst (eD DX7_forgetMeasures 2 rfl) (go_putZ (kz := 4) (eD DX7_forgetMeasures 3 rfl) fX7_281 (by decide) rfl rfl (fun q h => by cases h; exact ⟨rfl, rfl⟩) rfl (by decide) (go_aload_n (eD DX7_forgetMeasures 4 rfl) rfl rfl (go_getR (t := 16) (eD DX7_forgetMeasures 5 rfl) fX7_63 (by decide) rfl ⟨rfl, rfl⟩ (?_))))))
  refine go_callV (ci := 5) [] (eD DX7_forgetMeasures 6 rfl) ⟨eMem 2 211 rfl rfl, sX5_forget⟩ ⟨Nat.le_of_ble_eq_true rfl, Nat.le_of_ble_eq_true rfl⟩ (by decide) ⟨rfl, by decide, _, rfl, rfl⟩ rfl rfl (Nat.le_of_ble_eq_true rfl) (Cal.as (zX5_forget (eU w 13 4 0)  ) (r2 := none) (w2 := (eU (eU (eU (eU w 13 4 0) 16 9 0) 16 10 0) 16 11 0)) rfl (by simp only [wX5_forget])) (?_)
  exact go_aload_n (eD DX7_forgetMeasures 7 rfl) rfl rfl (go_getR (t := 24) (eD DX7_forgetMeasures 8 rfl) fX7_70 (by decide) rfl ⟨rfl, rfl⟩ (go_iconst (eD DX7_forgetMeasures 9 rfl) (go_putZ (kz := 9) (eD DX7_forgetMeasures 10 rfl) fX7_288 (by decide) rfl rfl (fun q h => by cases h; exact ⟨rfl, rfl⟩) rfl (by decide) (go_vret (eD DX7_forgetMeasures 11 rfl) rfl))))
def rX7_pointTrouble (w : eW) (px py : Int) : Int := if 0 < (w 2 0) ∧ 0 < (w 2 1) then (if 0 ≤ px ∧ px ≤ 4 * (w 2 0) ∧ 0 ≤ py ∧ py ≤ 4 * (w 2 1) then 0 else 2) else 1
set_option maxRecDepth 20000 in
theorem zX7_pointTrouble (w : eW) (px py : Int) (hpx : eI px) (hpy : eI py) (hB : HB w) : Cal mX7_pointTrouble [eR 0, (0, px), (0, py)] w (some (0, rX7_pointTrouble w px py)) w := by
  obtain ⟨⟨b1, b2, b3, b4, b5, b6⟩, b7, b8, b9⟩ := id hB
  unfold rX7_pointTrouble
  refine Cal.of (by decide +kernel) (Nat.le_of_ble_eq_true rfl) ?_
  show Go _ 0 [(0, eR 0), (1, (0, px)), (2, (0, py))] [] _ _ _
  refine go_aload_n (eD DX7_pointTrouble 0 rfl) rfl rfl (go_getR (t := 2) (eD DX7_pointTrouble 1 rfl) fX7_29 (by decide) rfl ⟨rfl, rfl⟩ (go_callV (ci := 0) [] (eD DX7_pointTrouble 2 rfl) ⟨eMem 2 232 rfl rfl, sX0_stands⟩ ⟨Nat.le_of_ble_eq_true rfl, Nat.le_of_ble_eq_true rfl⟩ (by decide) ⟨rfl, by decide, _, rfl, rfl⟩ rfl rfl (Nat.le_of_ble_eq_true rfl) (y_b_X0_stands w  (by assumption)) (?_)))
  by_cases h1 : 0 < (w 2 0) ∧ 0 < (w 2 1)
  · refine go_if_neT (tgt := 12) (eD DX7_pointTrouble 3 rfl) rfl (eI_pI _) (pI1 h1) ?_
    refine go_aload_n (eD DX7_pointTrouble 6 rfl) rfl rfl (go_getR (t := 2) (eD DX7_pointTrouble 7 rfl) fX7_29 (by decide) rfl ⟨rfl, rfl⟩ (go_iload_n (eD DX7_pointTrouble 8 rfl) rfl rfl (go_iload_n (eD DX7_pointTrouble 9 rfl) rfl rfl (go_callV (ci := 0) [(0, px), (0, py)] (eD DX7_pointTrouble 10 rfl) ⟨eMem 3 139 rfl rfl, sX0_hasPoint⟩ ⟨Nat.le_of_ble_eq_true rfl, Nat.le_of_ble_eq_true rfl⟩ (by decide) ⟨rfl, by decide, _, rfl, rfl⟩ rfl rfl (Nat.le_of_ble_eq_true rfl) (y_b_X0_hasPoint w px py (by omega) (by omega) (by assumption)) (?_)))))
    by_cases h2 : 0 ≤ px ∧ px ≤ 4 * (w 2 0) ∧ 0 ≤ py ∧ py ≤ 4 * (w 2 1)
    · refine go_if_eqF (tgt := 28) (eD DX7_pointTrouble 11 rfl) rfl (eI_pI _) (pI1 h2) ?_
      simp only [if_pos h1, if_pos h2]
      exact go_iconst (eD DX7_pointTrouble 12 rfl) (go_goto (tgt := 29) (eD DX7_pointTrouble 13 rfl) rfl (go_iret (eD DX7_pointTrouble 15 rfl) rfl))
    · refine go_if_eqT (tgt := 28) (eD DX7_pointTrouble 11 rfl) rfl (eI_pI _) (pI0 h2) ?_
      simp only [if_pos h1, if_neg h2]
      exact go_iconst (eD DX7_pointTrouble 14 rfl) (go_iret (eD DX7_pointTrouble 15 rfl) rfl)
  · refine go_if_neF (tgt := 12) (eD DX7_pointTrouble 3 rfl) rfl (eI_pI _) (not_not_intro (pI0 h1)) ?_
    simp only [if_neg h1]
    exact go_iconst (eD DX7_pointTrouble 4 rfl) (go_iret (eD DX7_pointTrouble 5 rfl) rfl)
def rX7_timeTrouble (w : eW) (a b : Int) : Int := if 0 < (w 2 0) ∧ 0 < (w 2 1) then (if a < 0 then 2 else (if 9999 < a then 2 else (if b < 1 then 2 else (if 9999 < b then 2 else 0)))) else 1
set_option maxRecDepth 20000 in
theorem zX7_timeTrouble (w : eW) (a b : Int) (ha : eI a) (hb : eI b) (hB : HB w) : Cal mX7_timeTrouble [eR 0, (0, a), (0, b)] w (some (0, rX7_timeTrouble w a b)) w := by
  obtain ⟨⟨b1, b2, b3, b4, b5, b6⟩, b7, b8, b9⟩ := id hB
  unfold rX7_timeTrouble
  refine Cal.of (by decide +kernel) (Nat.le_of_ble_eq_true rfl) ?_
  show Go _ 0 [(0, eR 0), (1, (0, a)), (2, (0, b))] [] _ _ _
  refine go_aload_n (eD DX7_timeTrouble 0 rfl) rfl rfl (go_getR (t := 2) (eD DX7_timeTrouble 1 rfl) fX7_29 (by decide) rfl ⟨rfl, rfl⟩ (go_callV (ci := 0) [] (eD DX7_timeTrouble 2 rfl) ⟨eMem 2 232 rfl rfl, sX0_stands⟩ ⟨Nat.le_of_ble_eq_true rfl, Nat.le_of_ble_eq_true rfl⟩ (by decide) ⟨rfl, by decide, _, rfl, rfl⟩ rfl rfl (Nat.le_of_ble_eq_true rfl) (y_b_X0_stands w  (by assumption)) (?_)))
  by_cases h1 : 0 < (w 2 0) ∧ 0 < (w 2 1)
  · refine go_if_neT (tgt := 12) (eD DX7_timeTrouble 3 rfl) rfl (eI_pI _) (pI1 h1) ?_
    refine go_iload_n (eD DX7_timeTrouble 6 rfl) rfl rfl (?_)
    by_cases h2 : a < 0
    · refine go_if_ltT (tgt := 39) (eD DX7_timeTrouble 7 rfl) rfl (by omega) h2 ?_
      refine go_iconst (eD DX7_timeTrouble 19 rfl) (go_istore_n (eD DX7_timeTrouble 20 rfl) rfl (by decide) (go_iload_n (eD DX7_timeTrouble 21 rfl) rfl rfl (go_if_eqT (tgt := 49) (eD DX7_timeTrouble 22 rfl) rfl (by decide) (show (0 : Int) = 0 from by decide) (?_))))
      simp only [if_pos h1, if_pos h2]
      exact go_iconst (eD DX7_timeTrouble 25 rfl) (go_iret (eD DX7_timeTrouble 26 rfl) rfl)
    · refine go_if_ltF (tgt := 39) (eD DX7_timeTrouble 7 rfl) rfl (by omega) h2 ?_
      refine go_iload_n (eD DX7_timeTrouble 8 rfl) rfl rfl (go_sipush (eD DX7_timeTrouble 9 rfl) (by decide) (?_))
      by_cases h3 : 9999 < a
      · refine go_icmp_gtT (tgt := 39) (eD DX7_timeTrouble 10 rfl) rfl (by omega) (by decide) h3 ?_
        refine go_iconst (eD DX7_timeTrouble 19 rfl) (go_istore_n (eD DX7_timeTrouble 20 rfl) rfl (by decide) (go_iload_n (eD DX7_timeTrouble 21 rfl) rfl rfl (go_if_eqT (tgt := 49) (eD DX7_timeTrouble 22 rfl) rfl (by decide) (show (0 : Int) = 0 from by decide) (?_))))
        simp only [if_pos h1, if_neg h2, if_pos h3]
        exact go_iconst (eD DX7_timeTrouble 25 rfl) (go_iret (eD DX7_timeTrouble 26 rfl) rfl)
      · refine go_icmp_gtF (tgt := 39) (eD DX7_timeTrouble 10 rfl) rfl (by omega) (by decide) h3 ?_
        refine go_iload_n (eD DX7_timeTrouble 11 rfl) rfl rfl (go_iconst (eD DX7_timeTrouble 12 rfl) (?_))
        by_cases h4 : b < 1
        · refine go_icmp_ltT (tgt := 39) (eD DX7_timeTrouble 13 rfl) rfl (by omega) (by decide) h4 ?_
          refine go_iconst (eD DX7_timeTrouble 19 rfl) (go_istore_n (eD DX7_timeTrouble 20 rfl) rfl (by decide) (go_iload_n (eD DX7_timeTrouble 21 rfl) rfl rfl (go_if_eqT (tgt := 49) (eD DX7_timeTrouble 22 rfl) rfl (by decide) (show (0 : Int) = 0 from by decide) (?_))))
          simp only [if_pos h1, if_neg h2, if_neg h3, if_pos h4]
          exact go_iconst (eD DX7_timeTrouble 25 rfl) (go_iret (eD DX7_timeTrouble 26 rfl) rfl)
        · refine go_icmp_ltF (tgt := 39) (eD DX7_timeTrouble 13 rfl) rfl (by omega) (by decide) h4 ?_
          refine go_iload_n (eD DX7_timeTrouble 14 rfl) rfl rfl (go_sipush (eD DX7_timeTrouble 15 rfl) (by decide) (?_))
          by_cases h5 : 9999 < b
          · refine go_icmp_gtT (tgt := 39) (eD DX7_timeTrouble 16 rfl) rfl (by omega) (by decide) h5 ?_
            refine go_iconst (eD DX7_timeTrouble 19 rfl) (go_istore_n (eD DX7_timeTrouble 20 rfl) rfl (by decide) (go_iload_n (eD DX7_timeTrouble 21 rfl) rfl rfl (go_if_eqT (tgt := 49) (eD DX7_timeTrouble 22 rfl) rfl (by decide) (show (0 : Int) = 0 from by decide) (?_))))
            simp only [if_pos h1, if_neg h2, if_neg h3, if_neg h4, if_pos h5]
            exact go_iconst (eD DX7_timeTrouble 25 rfl) (go_iret (eD DX7_timeTrouble 26 rfl) rfl)
          · refine go_icmp_gtF (tgt := 39) (eD DX7_timeTrouble 16 rfl) rfl (by omega) (by decide) h5 ?_
            refine go_iconst (eD DX7_timeTrouble 17 rfl) (go_goto (tgt := 40) (eD DX7_timeTrouble 18 rfl) rfl (go_istore_n (eD DX7_timeTrouble 20 rfl) rfl (by decide) (go_iload_n (eD DX7_timeTrouble 21 rfl) rfl rfl (go_if_eqF (tgt := 49) (eD DX7_timeTrouble 22 rfl) rfl (by decide) (show ¬ ((1 : Int) = 0) from by decide) (?_)))))
            simp only [if_pos h1, if_neg h2, if_neg h3, if_neg h4, if_neg h5]
            exact go_iconst (eD DX7_timeTrouble 23 rfl) (go_goto (tgt := 50) (eD DX7_timeTrouble 24 rfl) rfl (go_iret (eD DX7_timeTrouble 26 rfl) rfl))
  · refine go_if_neF (tgt := 12) (eD DX7_timeTrouble 3 rfl) rfl (eI_pI _) (not_not_intro (pI0 h1)) ?_
    simp only [if_neg h1]
    exact go_iconst (eD DX7_timeTrouble 4 rfl) (go_iret (eD DX7_timeTrouble 5 rfl) rfl)
