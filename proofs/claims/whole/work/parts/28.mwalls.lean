def rX8_isWalled (w : eW) (x y side : Int) : Int := if insM w x y then (if side = 1 then (if side = 0 then (if insM w (x + 1) (y - 1) then 0 else 1) else (if side = 2 then (if insM w (x + 1) (y + 1) then 0 else 1) else (if insM w (x + 1) y then 0 else 1))) else (if side = 3 then (if side = 0 then (if insM w (x - 1) (y - 1) then 0 else 1) else (if side = 2 then (if insM w (x - 1) (y + 1) then 0 else 1) else (if insM w (x - 1) y then 0 else 1))) else (if side = 0 then (if insM w x (y - 1) then 0 else 1) else (if side = 2 then (if insM w x (y + 1) then 0 else 1) else 0)))) else 0
set_option maxRecDepth 20000 in
theorem zX8_isWalled (w : eW) (x y side : Int) (hx : eI x) (hy : eI y) (hside : eI side) (hM : MB w) (hx2 : -2 ≤ x ∧ x ≤ 20 ∧ -2 ≤ y ∧ y ≤ 20) : Cal mX8_isWalled [eR 33, (0, x), (0, y), (0, side)] w (some (0, rX8_isWalled w x y side)) w := by
  obtain ⟨⟨c1, c2, c3, c4, c5, c6, c7, c8, c9, c10⟩, c11, c12, c13⟩ := id hM
  unfold rX8_isWalled
  refine Cal.of (by decide +kernel) (Nat.le_of_ble_eq_true rfl) ?_
  show Go _ 0 [(0, eR 33), (1, (0, x)), (2, (0, y)), (3, (0, side))] [] _ _ _
  refine go_aload_n (eD DX8_isWalled 0 rfl) rfl rfl (go_iload_n (eD DX8_isWalled 1 rfl) rfl rfl (go_iload_n (eD DX8_isWalled 2 rfl) rfl rfl (go_callV (ci := 8) [(0, x), (0, y)] (eD DX8_isWalled 3 rfl) ⟨eMem 6 75 rfl rfl, sX8_isInside⟩ ⟨Nat.le_of_ble_eq_true rfl, Nat.le_of_ble_eq_true rfl⟩ (by decide) ⟨rfl, by decide, _, rfl, rfl⟩ rfl rfl (Nat.le_of_ble_eq_true rfl) (y_b_X8_isInside w x y (by omega) (by omega) (by assumption)) (?_))))
  by_cases h1 : insM w x y
  · refine go_if_eqF (tgt := 30) (eD DX8_isWalled 4 rfl) rfl (eI_pI _) (pI1 h1) ?_
    refine go_aload_n (eD DX8_isWalled 5 rfl) rfl rfl (go_iload_n (eD DX8_isWalled 6 rfl) rfl rfl (go_iload_n (eD DX8_isWalled 7 rfl) rfl rfl (?_)))
    by_cases h2 : side = 1
    · refine go_callS [(0, x), (0, side)] (eD DX8_isWalled 8 rfl) ⟨eMem 6 79 rfl rfl, sX8_besideX⟩ ⟨Nat.le_of_ble_eq_true rfl, Nat.le_of_ble_eq_true rfl⟩ rfl rfl (Nat.le_of_ble_eq_true rfl) (Cal.as (zX8_besideX w x side (by omega) ) (r2 := some (0, x + 1)) (w2 := w) (by (try simp only [rX8_besideX, if_pos h1, if_pos h2]) <;> (try rfl)) rfl) (?_)
      refine go_iload_n (eD DX8_isWalled 9 rfl) rfl rfl (go_iload_n (eD DX8_isWalled 10 rfl) rfl rfl (?_))
      by_cases h3 : side = 0
      · refine go_callS [(0, y), (0, side)] (eD DX8_isWalled 11 rfl) ⟨eMem 6 82 rfl rfl, sX8_besideY⟩ ⟨Nat.le_of_ble_eq_true rfl, Nat.le_of_ble_eq_true rfl⟩ rfl rfl (Nat.le_of_ble_eq_true rfl) (Cal.as (zX8_besideY w y side (by omega) ) (r2 := some (0, y - 1)) (w2 := w) (by (try simp only [rX8_besideY, if_pos h1, if_pos h2, if_pos h3]) <;> (try rfl)) rfl) (?_)
        refine go_callV (ci := 8) [(0, x + 1), (0, y - 1)] (eD DX8_isWalled 12 rfl) ⟨eMem 6 75 rfl rfl, sX8_isInside⟩ ⟨Nat.le_of_ble_eq_true rfl, Nat.le_of_ble_eq_true rfl⟩ (by decide) ⟨rfl, by decide, _, rfl, rfl⟩ rfl rfl (Nat.le_of_ble_eq_true rfl) (y_b_X8_isInside w (x + 1) (y - 1) (by omega) (by omega) (by assumption)) (?_)
        by_cases h4 : insM w (x + 1) (y - 1)
        · refine go_if_neT (tgt := 30) (eD DX8_isWalled 13 rfl) rfl (eI_pI _) (pI1 h4) ?_
          simp only [if_pos h1, if_pos h2, if_pos h3, if_pos h4]
          exact go_iconst (eD DX8_isWalled 16 rfl) (go_zret (eD DX8_isWalled 17 rfl) rfl (by decide))
        · refine go_if_neF (tgt := 30) (eD DX8_isWalled 13 rfl) rfl (eI_pI _) (not_not_intro (pI0 h4)) ?_
          simp only [if_pos h1, if_pos h2, if_pos h3, if_neg h4]
          exact go_iconst (eD DX8_isWalled 14 rfl) (go_goto (tgt := 31) (eD DX8_isWalled 15 rfl) rfl (go_zret (eD DX8_isWalled 17 rfl) rfl (by decide)))
      · by_cases h4 : side = 2
        · refine go_callS [(0, y), (0, side)] (eD DX8_isWalled 11 rfl) ⟨eMem 6 82 rfl rfl, sX8_besideY⟩ ⟨Nat.le_of_ble_eq_true rfl, Nat.le_of_ble_eq_true rfl⟩ rfl rfl (Nat.le_of_ble_eq_true rfl) (Cal.as (zX8_besideY w y side (by omega) ) (r2 := some (0, y + 1)) (w2 := w) (by (try simp only [rX8_besideY, if_pos h1, if_pos h2, if_neg h3, if_pos h4]) <;> (try rfl)) rfl) (?_)
          refine go_callV (ci := 8) [(0, x + 1), (0, y + 1)] (eD DX8_isWalled 12 rfl) ⟨eMem 6 75 rfl rfl, sX8_isInside⟩ ⟨Nat.le_of_ble_eq_true rfl, Nat.le_of_ble_eq_true rfl⟩ (by decide) ⟨rfl, by decide, _, rfl, rfl⟩ rfl rfl (Nat.le_of_ble_eq_true rfl) (y_b_X8_isInside w (x + 1) (y + 1) (by omega) (by omega) (by assumption)) (?_)
          by_cases h5 : insM w (x + 1) (y + 1)
          · refine go_if_neT (tgt := 30) (eD DX8_isWalled 13 rfl) rfl (eI_pI _) (pI1 h5) ?_
            simp only [if_pos h1, if_pos h2, if_neg h3, if_pos h4, if_pos h5]
            exact go_iconst (eD DX8_isWalled 16 rfl) (go_zret (eD DX8_isWalled 17 rfl) rfl (by decide))
          · refine go_if_neF (tgt := 30) (eD DX8_isWalled 13 rfl) rfl (eI_pI _) (not_not_intro (pI0 h5)) ?_
            simp only [if_pos h1, if_pos h2, if_neg h3, if_pos h4, if_neg h5]
            exact go_iconst (eD DX8_isWalled 14 rfl) (go_goto (tgt := 31) (eD DX8_isWalled 15 rfl) rfl (go_zret (eD DX8_isWalled 17 rfl) rfl (by decide)))
        · refine go_callS [(0, y), (0, side)] (eD DX8_isWalled 11 rfl) ⟨eMem 6 82 rfl rfl, sX8_besideY⟩ ⟨Nat.le_of_ble_eq_true rfl, Nat.le_of_ble_eq_true rfl⟩ rfl rfl (Nat.le_of_ble_eq_true rfl) (Cal.as (zX8_besideY w y side (by omega) ) (r2 := some (0, y)) (w2 := w) (by (try simp only [rX8_besideY, if_pos h1, if_pos h2, if_neg h3, if_neg h4]) <;> (try rfl)) rfl) (?_)
          refine go_callV (ci := 8) [(0, x + 1), (0, y)] (eD DX8_isWalled 12 rfl) ⟨eMem 6 75 rfl rfl, sX8_isInside⟩ ⟨Nat.le_of_ble_eq_true rfl, Nat.le_of_ble_eq_true rfl⟩ (by decide) ⟨rfl, by decide, _, rfl, rfl⟩ rfl rfl (Nat.le_of_ble_eq_true rfl) (y_b_X8_isInside w (x + 1) y (by omega) (by omega) (by assumption)) (?_)
          by_cases h5 : insM w (x + 1) y
          · refine go_if_neT (tgt := 30) (eD DX8_isWalled 13 rfl) rfl (eI_pI _) (pI1 h5) ?_
            simp only [if_pos h1, if_pos h2, if_neg h3, if_neg h4, if_pos h5]
            exact go_iconst (eD DX8_isWalled 16 rfl) (go_zret (eD DX8_isWalled 17 rfl) rfl (by decide))
          · refine go_if_neF (tgt := 30) (eD DX8_isWalled 13 rfl) rfl (eI_pI _) (not_not_intro (pI0 h5)) ?_
            simp only [if_pos h1, if_pos h2, if_neg h3, if_neg h4, if_neg h5]
            exact go_iconst (eD DX8_isWalled 14 rfl) (go_goto (tgt := 31) (eD DX8_isWalled 15 rfl) rfl (go_zret (eD DX8_isWalled 17 rfl) rfl (by decide)))
    · by_cases h3 : side = 3
      · refine go_callS [(0, x), (0, side)] (eD DX8_isWalled 8 rfl) ⟨eMem 6 79 rfl rfl, sX8_besideX⟩ ⟨Nat.le_of_ble_eq_true rfl, Nat.le_of_ble_eq_true rfl⟩ rfl rfl (Nat.le_of_ble_eq_true rfl) (Cal.as (zX8_besideX w x side (by omega) ) (r2 := some (0, x - 1)) (w2 := w) (by (try simp only [rX8_besideX, if_pos h1, if_neg h2, if_pos h3]) <;> (try rfl)) rfl) (?_)
        refine go_iload_n (eD DX8_isWalled 9 rfl) rfl rfl (go_iload_n (eD DX8_isWalled 10 rfl) rfl rfl (?_))
        by_cases h4 : side = 0
        · refine go_callS [(0, y), (0, side)] (eD DX8_isWalled 11 rfl) ⟨eMem 6 82 rfl rfl, sX8_besideY⟩ ⟨Nat.le_of_ble_eq_true rfl, Nat.le_of_ble_eq_true rfl⟩ rfl rfl (Nat.le_of_ble_eq_true rfl) (Cal.as (zX8_besideY w y side (by omega) ) (r2 := some (0, y - 1)) (w2 := w) (by (try simp only [rX8_besideY, if_pos h1, if_neg h2, if_pos h3, if_pos h4]) <;> (try rfl)) rfl) (?_)
          refine go_callV (ci := 8) [(0, x - 1), (0, y - 1)] (eD DX8_isWalled 12 rfl) ⟨eMem 6 75 rfl rfl, sX8_isInside⟩ ⟨Nat.le_of_ble_eq_true rfl, Nat.le_of_ble_eq_true rfl⟩ (by decide) ⟨rfl, by decide, _, rfl, rfl⟩ rfl rfl (Nat.le_of_ble_eq_true rfl) (y_b_X8_isInside w (x - 1) (y - 1) (by omega) (by omega) (by assumption)) (?_)
          by_cases h5 : insM w (x - 1) (y - 1)
          · refine go_if_neT (tgt := 30) (eD DX8_isWalled 13 rfl) rfl (eI_pI _) (pI1 h5) ?_
            simp only [if_pos h1, if_neg h2, if_pos h3, if_pos h4, if_pos h5]
            exact go_iconst (eD DX8_isWalled 16 rfl) (go_zret (eD DX8_isWalled 17 rfl) rfl (by decide))
          · refine go_if_neF (tgt := 30) (eD DX8_isWalled 13 rfl) rfl (eI_pI _) (not_not_intro (pI0 h5)) ?_
            simp only [if_pos h1, if_neg h2, if_pos h3, if_pos h4, if_neg h5]
            exact go_iconst (eD DX8_isWalled 14 rfl) (go_goto (tgt := 31) (eD DX8_isWalled 15 rfl) rfl (go_zret (eD DX8_isWalled 17 rfl) rfl (by decide)))
        · by_cases h5 : side = 2
          · refine go_callS [(0, y), (0, side)] (eD DX8_isWalled 11 rfl) ⟨eMem 6 82 rfl rfl, sX8_besideY⟩ ⟨Nat.le_of_ble_eq_true rfl, Nat.le_of_ble_eq_true rfl⟩ rfl rfl (Nat.le_of_ble_eq_true rfl) (Cal.as (zX8_besideY w y side (by omega) ) (r2 := some (0, y + 1)) (w2 := w) (by (try simp only [rX8_besideY, if_pos h1, if_neg h2, if_pos h3, if_neg h4, if_pos h5]) <;> (try rfl)) rfl) (?_)
            refine go_callV (ci := 8) [(0, x - 1), (0, y + 1)] (eD DX8_isWalled 12 rfl) ⟨eMem 6 75 rfl rfl, sX8_isInside⟩ ⟨Nat.le_of_ble_eq_true rfl, Nat.le_of_ble_eq_true rfl⟩ (by decide) ⟨rfl, by decide, _, rfl, rfl⟩ rfl rfl (Nat.le_of_ble_eq_true rfl) (y_b_X8_isInside w (x - 1) (y + 1) (by omega) (by omega) (by assumption)) (?_)
            by_cases h6 : insM w (x - 1) (y + 1)
            · refine go_if_neT (tgt := 30) (eD DX8_isWalled 13 rfl) rfl (eI_pI _) (pI1 h6) ?_
              simp only [if_pos h1, if_neg h2, if_pos h3, if_neg h4, if_pos h5, if_pos h6]
              exact go_iconst (eD DX8_isWalled 16 rfl) (go_zret (eD DX8_isWalled 17 rfl) rfl (by decide))
            · refine go_if_neF (tgt := 30) (eD DX8_isWalled 13 rfl) rfl (eI_pI _) (not_not_intro (pI0 h6)) ?_
              simp only [if_pos h1, if_neg h2, if_pos h3, if_neg h4, if_pos h5, if_neg h6]
              exact go_iconst (eD DX8_isWalled 14 rfl) (go_goto (tgt := 31) (eD DX8_isWalled 15 rfl) rfl (go_zret (eD DX8_isWalled 17 rfl) rfl (by decide)))
          · refine go_callS [(0, y), (0, side)] (eD DX8_isWalled 11 rfl) ⟨eMem 6 82 rfl rfl, sX8_besideY⟩ ⟨Nat.le_of_ble_eq_true rfl, Nat.le_of_ble_eq_true rfl⟩ rfl rfl (Nat.le_of_ble_eq_true rfl) (Cal.as (zX8_besideY w y side (by omega) ) (r2 := some (0, y)) (w2 := w) (by (try simp only [rX8_besideY, if_pos h1, if_neg h2, if_pos h3, if_neg h4, if_neg h5]) <;> (try rfl)) rfl) (?_)
            refine go_callV (ci := 8) [(0, x - 1), (0, y)] (eD DX8_isWalled 12 rfl) ⟨eMem 6 75 rfl rfl, sX8_isInside⟩ ⟨Nat.le_of_ble_eq_true rfl, Nat.le_of_ble_eq_true rfl⟩ (by decide) ⟨rfl, by decide, _, rfl, rfl⟩ rfl rfl (Nat.le_of_ble_eq_true rfl) (y_b_X8_isInside w (x - 1) y (by omega) (by omega) (by assumption)) (?_)
            by_cases h6 : insM w (x - 1) y
            · refine go_if_neT (tgt := 30) (eD DX8_isWalled 13 rfl) rfl (eI_pI _) (pI1 h6) ?_
              simp only [if_pos h1, if_neg h2, if_pos h3, if_neg h4, if_neg h5, if_pos h6]
              exact go_iconst (eD DX8_isWalled 16 rfl) (go_zret (eD DX8_isWalled 17 rfl) rfl (by decide))
            · refine go_if_neF (tgt := 30) (eD DX8_isWalled 13 rfl) rfl (eI_pI _) (not_not_intro (pI0 h6)) ?_
              simp only [if_pos h1, if_neg h2, if_pos h3, if_neg h4, if_neg h5, if_neg h6]
              exact go_iconst (eD DX8_isWalled 14 rfl) (go_goto (tgt := 31) (eD DX8_isWalled 15 rfl) rfl (go_zret (eD DX8_isWalled 17 rfl) rfl (by decide)))
      · refine go_callS [(0, x), (0, side)] (eD DX8_isWalled 8 rfl) ⟨eMem 6 79 rfl rfl, sX8_besideX⟩ ⟨Nat.le_of_ble_eq_true rfl, Nat.le_of_ble_eq_true rfl⟩ rfl rfl (Nat.le_of_ble_eq_true rfl) (Cal.as (zX8_besideX w x side (by omega) ) (r2 := some (0, x)) (w2 := w) (by (try simp only [rX8_besideX, if_pos h1, if_neg h2, if_neg h3]) <;> (try rfl)) rfl) (?_)
        refine go_iload_n (eD DX8_isWalled 9 rfl) rfl rfl (go_iload_n (eD DX8_isWalled 10 rfl) rfl rfl (?_))
        by_cases h4 : side = 0
        · refine go_callS [(0, y), (0, side)] (eD DX8_isWalled 11 rfl) ⟨eMem 6 82 rfl rfl, sX8_besideY⟩ ⟨Nat.le_of_ble_eq_true rfl, Nat.le_of_ble_eq_true rfl⟩ rfl rfl (Nat.le_of_ble_eq_true rfl) (Cal.as (zX8_besideY w y side (by omega) ) (r2 := some (0, y - 1)) (w2 := w) (by (try simp only [rX8_besideY, if_pos h1, if_neg h2, if_neg h3, if_pos h4]) <;> (try rfl)) rfl) (?_)
          refine go_callV (ci := 8) [(0, x), (0, y - 1)] (eD DX8_isWalled 12 rfl) ⟨eMem 6 75 rfl rfl, sX8_isInside⟩ ⟨Nat.le_of_ble_eq_true rfl, Nat.le_of_ble_eq_true rfl⟩ (by decide) ⟨rfl, by decide, _, rfl, rfl⟩ rfl rfl (Nat.le_of_ble_eq_true rfl) (y_b_X8_isInside w x (y - 1) (by omega) (by omega) (by assumption)) (?_)
          by_cases h5 : insM w x (y - 1)
          · refine go_if_neT (tgt := 30) (eD DX8_isWalled 13 rfl) rfl (eI_pI _) (pI1 h5) ?_
            simp only [if_pos h1, if_neg h2, if_neg h3, if_pos h4, if_pos h5]
            exact go_iconst (eD DX8_isWalled 16 rfl) (go_zret (eD DX8_isWalled 17 rfl) rfl (by decide))
          · refine go_if_neF (tgt := 30) (eD DX8_isWalled 13 rfl) rfl (eI_pI _) (not_not_intro (pI0 h5)) ?_
            simp only [if_pos h1, if_neg h2, if_neg h3, if_pos h4, if_neg h5]
            exact go_iconst (eD DX8_isWalled 14 rfl) (go_goto (tgt := 31) (eD DX8_isWalled 15 rfl) rfl (go_zret (eD DX8_isWalled 17 rfl) rfl (by decide)))
        · by_cases h5 : side = 2
          · refine go_callS [(0, y), (0, side)] (eD DX8_isWalled 11 rfl) ⟨eMem 6 82 rfl rfl, sX8_besideY⟩ ⟨Nat.le_of_ble_eq_true rfl, Nat.le_of_ble_eq_true rfl⟩ rfl rfl (Nat.le_of_ble_eq_true rfl) (Cal.as (zX8_besideY w y side (by omega) ) (r2 := some (0, y + 1)) (w2 := w) (by (try simp only [rX8_besideY, if_pos h1, if_neg h2, if_neg h3, if_neg h4, if_pos h5]) <;> (try rfl)) rfl) (?_)
            refine go_callV (ci := 8) [(0, x), (0, y + 1)] (eD DX8_isWalled 12 rfl) ⟨eMem 6 75 rfl rfl, sX8_isInside⟩ ⟨Nat.le_of_ble_eq_true rfl, Nat.le_of_ble_eq_true rfl⟩ (by decide) ⟨rfl, by decide, _, rfl, rfl⟩ rfl rfl (Nat.le_of_ble_eq_true rfl) (y_b_X8_isInside w x (y + 1) (by omega) (by omega) (by assumption)) (?_)
            by_cases h6 : insM w x (y + 1)
            · refine go_if_neT (tgt := 30) (eD DX8_isWalled 13 rfl) rfl (eI_pI _) (pI1 h6) ?_
              simp only [if_pos h1, if_neg h2, if_neg h3, if_neg h4, if_pos h5, if_pos h6]
              exact go_iconst (eD DX8_isWalled 16 rfl) (go_zret (eD DX8_isWalled 17 rfl) rfl (by decide))
            · refine go_if_neF (tgt := 30) (eD DX8_isWalled 13 rfl) rfl (eI_pI _) (not_not_intro (pI0 h6)) ?_
              simp only [if_pos h1, if_neg h2, if_neg h3, if_neg h4, if_pos h5, if_neg h6]
              exact go_iconst (eD DX8_isWalled 14 rfl) (go_goto (tgt := 31) (eD DX8_isWalled 15 rfl) rfl (go_zret (eD DX8_isWalled 17 rfl) rfl (by decide)))
          · refine go_callS [(0, y), (0, side)] (eD DX8_isWalled 11 rfl) ⟨eMem 6 82 rfl rfl, sX8_besideY⟩ ⟨Nat.le_of_ble_eq_true rfl, Nat.le_of_ble_eq_true rfl⟩ rfl rfl (Nat.le_of_ble_eq_true rfl) (Cal.as (zX8_besideY w y side (by omega) ) (r2 := some (0, y)) (w2 := w) (by (try simp only [rX8_besideY, if_pos h1, if_neg h2, if_neg h3, if_neg h4, if_neg h5]) <;> (try rfl)) rfl) (?_)
            refine go_callV (ci := 8) [(0, x), (0, y)] (eD DX8_isWalled 12 rfl) ⟨eMem 6 75 rfl rfl, sX8_isInside⟩ ⟨Nat.le_of_ble_eq_true rfl, Nat.le_of_ble_eq_true rfl⟩ (by decide) ⟨rfl, by decide, _, rfl, rfl⟩ rfl rfl (Nat.le_of_ble_eq_true rfl) (y_b_X8_isInside w x y (by omega) (by omega) (by assumption)) (go_if_neT (tgt := 30) (eD DX8_isWalled 13 rfl) rfl (eI_pI _) (pI1 h1) (?_))
            simp only [if_pos h1, if_neg h2, if_neg h3, if_neg h4, if_neg h5]
            exact go_iconst (eD DX8_isWalled 16 rfl) (go_zret (eD DX8_isWalled 17 rfl) rfl (by decide))
  · refine go_if_eqT (tgt := 30) (eD DX8_isWalled 4 rfl) rfl (eI_pI _) (pI0 h1) ?_
    simp only [if_neg h1]
    exact go_iconst (eD DX8_isWalled 16 rfl) (go_zret (eD DX8_isWalled 17 rfl) rfl (by decide))
theorem y_b_X8_isWalled0 (w : eW) (x y : Int) (hM : MB w) (hx2 : -2 ≤ x ∧ x ≤ 20 ∧ -2 ≤ y ∧ y ≤ 20) : Cal mX8_isWalled [eR 33, (0, x), (0, y), (0, 0)] w (some (0, if (insM w x y ∧ ¬ insM w x (y - 1)) then 1 else 0)) w := by
  refine Cal.as (zX8_isWalled w x y 0 (by omega) (by omega) (by decide) hM hx2) ?_ rfl
  unfold rX8_isWalled
  congr 2
  by_cases p1 : insM w x y
  · by_cases p2 : insM w x (y - 1)
    · rw [if_neg (c := insM w x y ∧ ¬ insM w x (y - 1)) (fun q => q.2 p2)]
      simp only [if_pos p1, if_pos p2]
      (repeat' split) <;> first | rfl | contradiction | omega
    · rw [if_pos (c := insM w x y ∧ ¬ insM w x (y - 1)) ⟨p1, p2⟩]
      simp only [if_pos p1, if_neg p2]
      (repeat' split) <;> first | rfl | contradiction | omega
  · rw [if_neg (c := insM w x y) p1, if_neg (c := insM w x y ∧ ¬ insM w x (y - 1)) (fun q => p1 q.1)]
theorem y_b_X8_isWalled1 (w : eW) (x y : Int) (hM : MB w) (hx2 : -2 ≤ x ∧ x ≤ 20 ∧ -2 ≤ y ∧ y ≤ 20) : Cal mX8_isWalled [eR 33, (0, x), (0, y), (0, 1)] w (some (0, if (insM w x y ∧ ¬ insM w (x + 1) y) then 1 else 0)) w := by
  refine Cal.as (zX8_isWalled w x y 1 (by omega) (by omega) (by decide) hM hx2) ?_ rfl
  unfold rX8_isWalled
  congr 2
  by_cases p1 : insM w x y
  · by_cases p2 : insM w (x + 1) y
    · rw [if_neg (c := insM w x y ∧ ¬ insM w (x + 1) y) (fun q => q.2 p2)]
      simp only [if_pos p1, if_pos p2]
      (repeat' split) <;> first | rfl | contradiction | omega
    · rw [if_pos (c := insM w x y ∧ ¬ insM w (x + 1) y) ⟨p1, p2⟩]
      simp only [if_pos p1, if_neg p2]
      (repeat' split) <;> first | rfl | contradiction | omega
  · rw [if_neg (c := insM w x y) p1, if_neg (c := insM w x y ∧ ¬ insM w (x + 1) y) (fun q => p1 q.1)]
theorem y_b_X8_isWalled2 (w : eW) (x y : Int) (hM : MB w) (hx2 : -2 ≤ x ∧ x ≤ 20 ∧ -2 ≤ y ∧ y ≤ 20) : Cal mX8_isWalled [eR 33, (0, x), (0, y), (0, 2)] w (some (0, if (insM w x y ∧ ¬ insM w x (y + 1)) then 1 else 0)) w := by
  refine Cal.as (zX8_isWalled w x y 2 (by omega) (by omega) (by decide) hM hx2) ?_ rfl
  unfold rX8_isWalled
  congr 2
  by_cases p1 : insM w x y
  · by_cases p2 : insM w x (y + 1)
    · rw [if_neg (c := insM w x y ∧ ¬ insM w x (y + 1)) (fun q => q.2 p2)]
      simp only [if_pos p1, if_pos p2]
      (repeat' split) <;> first | rfl | contradiction | omega
    · rw [if_pos (c := insM w x y ∧ ¬ insM w x (y + 1)) ⟨p1, p2⟩]
      simp only [if_pos p1, if_neg p2]
      (repeat' split) <;> first | rfl | contradiction | omega
  · rw [if_neg (c := insM w x y) p1, if_neg (c := insM w x y ∧ ¬ insM w x (y + 1)) (fun q => p1 q.1)]
theorem y_b_X8_isWalled3 (w : eW) (x y : Int) (hM : MB w) (hx2 : -2 ≤ x ∧ x ≤ 20 ∧ -2 ≤ y ∧ y ≤ 20) : Cal mX8_isWalled [eR 33, (0, x), (0, y), (0, 3)] w (some (0, if (insM w x y ∧ ¬ insM w (x - 1) y) then 1 else 0)) w := by
  refine Cal.as (zX8_isWalled w x y 3 (by omega) (by omega) (by decide) hM hx2) ?_ rfl
  unfold rX8_isWalled
  congr 2
  by_cases p1 : insM w x y
  · by_cases p2 : insM w (x - 1) y
    · rw [if_neg (c := insM w x y ∧ ¬ insM w (x - 1) y) (fun q => q.2 p2)]
      simp only [if_pos p1, if_pos p2]
      (repeat' split) <;> first | rfl | contradiction | omega
    · rw [if_pos (c := insM w x y ∧ ¬ insM w (x - 1) y) ⟨p1, p2⟩]
      simp only [if_pos p1, if_neg p2]
      (repeat' split) <;> first | rfl | contradiction | omega
  · rw [if_neg (c := insM w x y) p1, if_neg (c := insM w x y ∧ ¬ insM w (x - 1) y) (fun q => p1 q.1)]
def wX8_begins (w : eW) (side x y : Int) : eW := (eU (eU (eU (eU (eU w 41 (w 33 33) side) 42 (w 33 33) x) 43 (w 33 33) y) 44 (w 33 33) 1) 33 33 ((w 33 33) + 1))
set_option maxRecDepth 20000 in
theorem zX8_begins (w : eW) (side x y : Int) (hc : 0 ≤ w 33 33 ∧ w 33 33 < 560) : Cal mX8_begins [eR 33, (0, side), (0, x), (0, y)] w none (wX8_begins w side x y) := by
  unfold wX8_begins
  refine Cal.of (by decide +kernel) (Nat.le_of_ble_eq_true rfl) ?_
  show Go _ 0 [(0, eR 33), (1, (0, side)), (2, (0, x)), (3, (0, y))] [] _ _ _
  exact go_aload_n (eD DX8_begins 0 rfl) rfl rfl (go_getR (t := 41) (eD DX8_begins 1 rfl) fX8_35 (by decide) rfl ⟨rfl, rfl⟩ (go_aload_n (eD DX8_begins 2 rfl) rfl rfl (go_getI (kz := 33) (eD DX8_begins 3 rfl) fX8_247 (by decide) rfl rfl rfl (go_iload_n (eD DX8_begins 4 rfl) rfl rfl (go_iast (n := 560) (eD DX8_begins 5 rfl) (by decide) rfl (show 0 ≤ (w 33 33) ∧ (w 33 33) < 560 from by omega) (go_aload_n (eD DX8_begins 6 rfl) rfl rfl (go_getR (t := 42) (eD DX8_begins 7 rfl) fX8_38 (by decide) rfl ⟨rfl, rfl⟩ (go_aload_n (eD DX8_begins 8 rfl) rfl rfl (go_getI (kz := 33) (eD DX8_begins 9 rfl) fX8_247 (by decide) rfl rfl rfl (go_iload_n (eD DX8_begins 10 rfl) rfl rfl (go_iast (n := 560) (eD DX8_begins 11 rfl) (by decide) rfl (show 0 ≤ (w 33 33) ∧ (w 33 33) < 560 from by omega) (go_aload_n (eD DX8_begins 12 rfl) rfl rfl (go_getR (t := 43) (eD DX8_begins 13 rfl) fX8_41 (by decide) rfl ⟨rfl, rfl⟩ (go_aload_n (eD DX8_begins 14 rfl) rfl rfl (go_getI (kz := 33) (eD DX8_begins 15 rfl) fX8_247 (by decide) rfl rfl rfl (go_iload_n (eD DX8_begins 16 rfl) rfl rfl (go_iast (n := 560) (eD DX8_begins 17 rfl) (by decide) rfl (show 0 ≤ (w 33 33) ∧ (w 33 33) < 560 from by omega) (go_aload_n (eD DX8_begins 18 rfl) rfl rfl (go_getR (t := 44) (eD DX8_begins 19 rfl) fX8_44 (by decide) rfl ⟨rfl, rfl⟩ (go_aload_n (eD DX8_begins 20 rfl) rfl rfl (go_getI (kz := 33) (eD DX8_begins 21 rfl) fX8_247 (by decide) rfl rfl rfl (go_iconst (eD DX8_begins 22 rfl) (go_iast (n := 560) (eD DX8_begins 23 rfl) (by decide) rfl (show 0 ≤ (w 33 33) ∧ (w 33 33) < 560 from by omega) (go_aload_n (eD DX8_begins 24 rfl) rfl rfl (go_dup (eD DX8_begins 25 rfl) (by decide) (go_getI (kz := 33) (eD DX8_begins 26 rfl) fX8_247 (by decide) rfl rfl rfl (go_iconst (eD DX8_begins 27 rfl) (go_iadd (eD DX8_begins 28 rfl) (go_putI (kz := 33) (eD DX8_begins 29 rfl) fX8_247 (by decide) rfl rfl (fun q h => by cases h; exact ⟨rfl, rfl⟩) rfl (go_vret (eD DX8_begins 30 rfl) rfl))))))))))))))))))))))))))))))
set_option maxRecDepth 20000 in
theorem tX8_laysWalls_0 {r : Option eV} {w9 : eW} (w : eW) (hM : MB w) (k1 : Go mX8_laysWalls 26 [(0, eR 33), (1, (0, 0)), (2, (0, 1)), (3, (0, 0))] [] (eU w 33 33 0) r w9) : Go mX8_laysWalls 0 [(0, eR 33)] [] w r w9 := by
  obtain ⟨⟨c1, c2, c3, c4, c5, c6, c7, c8, c9, c10⟩, c11, c12, c13⟩ := id hM
  refine go_aload_n (eD DX8_laysWalls 0 rfl) rfl rfl (go_iconst (eD DX8_laysWalls 1 rfl) (go_putI (kz := 33) (eD DX8_laysWalls 2 rfl) fX8_247 (by decide) rfl rfl (fun q h => by cases h; exact ⟨rfl, rfl⟩) rfl (go_iconst (eD DX8_laysWalls 3 rfl) (go_istore_n (eD DX8_laysWalls 4 rfl) rfl (by decide) (go_iload_n (eD DX8_laysWalls 5 rfl) rfl rfl (go_iconst (eD DX8_laysWalls 6 rfl) (go_icmp_geF (tgt := 170) (eD DX8_laysWalls 7 rfl) rfl (by decide) (by decide) (Int.not_le.mpr (show (0 : Int) < 4 from by decide)) (?_))))))))
  refine go_iload_n (eD DX8_laysWalls 8 rfl) rfl rfl (go_iconst (eD DX8_laysWalls 9 rfl) (go_irem (eD DX8_laysWalls 10 rfl) (by decide) (by decide) (show (0 : Int) ≤ 0 from by decide) (show (0 : Int) < 2 from by decide) (go_if_neF (tgt := 22) (eD DX8_laysWalls 11 rfl) rfl (show eI (0 % 2) from by decide) (not_not_intro (show ((0 % 2) : Int) = 0 from by decide)) (?_))))
  exact go_iconst (eD DX8_laysWalls 12 rfl) (go_goto (tgt := 23) (eD DX8_laysWalls 13 rfl) rfl (go_istore_n (eD DX8_laysWalls 15 rfl) rfl (by decide) (go_iconst (eD DX8_laysWalls 16 rfl) (go_istore_n (eD DX8_laysWalls 17 rfl) rfl (by decide) (Go.pick [3, 2, 1, 0] rfl (k1))))))
set_option maxRecDepth 20000 in
theorem tX8_laysWalls0_26 {r : Option eV} {w9 : eW} (w : eW) (lane : Int) (hM : MB w) (hl : 0 ≤ lane ∧ lane ≤ 14) (k1 : lane < (w 33 25) → Go mX8_laysWalls 51 [(0, eR 33), (1, (0, 0)), (2, (0, 1)), (3, (0, lane)), (4, (0, 0)), (5, (0, 0))] [] w r w9) (k2 : ¬ (lane < (w 33 25)) → Go mX8_laysWalls 26 [(0, eR 33), (1, (0, 0 + 1)), (2, (0, 0)), (3, (0, 0))] [] w r w9) : Go mX8_laysWalls 26 [(0, eR 33), (1, (0, 0)), (2, (0, 1)), (3, (0, lane))] [] w r w9 := by
  obtain ⟨⟨c1, c2, c3, c4, c5, c6, c7, c8, c9, c10⟩, c11, c12, c13⟩ := id hM
  refine go_iload_n (eD DX8_laysWalls 18 rfl) rfl rfl (go_iload_n (eD DX8_laysWalls 19 rfl) rfl rfl (go_if_eqF (tgt := 38) (eD DX8_laysWalls 20 rfl) rfl (by decide) (show ¬ ((1 : Int) = 0) from by decide) (?_)))
  refine go_aload_n (eD DX8_laysWalls 21 rfl) rfl rfl (go_getI (kz := 25) (eD DX8_laysWalls 22 rfl) fX8_219 (by decide) rfl rfl rfl (go_goto (tgt := 42) (eD DX8_laysWalls 23 rfl) rfl (?_)))
  by_cases h1 : lane < (w 33 25)
  · refine go_icmp_geF (tgt := 164) (eD DX8_laysWalls 26 rfl) rfl (by omega) (show eI (w 33 25) from by omega) (Int.not_le.mpr h1) ?_
    exact go_iconst (eD DX8_laysWalls 27 rfl) (go_istore (eD DX8_laysWalls 28 rfl) (by decide) (go_iconst (eD DX8_laysWalls 29 rfl) (go_istore (eD DX8_laysWalls 30 rfl) (by decide) (Go.pick [2, 3, 4, 5, 1, 0] rfl (k1 h1)))))
  · refine go_icmp_geT (tgt := 164) (eD DX8_laysWalls 26 rfl) rfl (by omega) (show eI (w 33 25) from by omega) (Int.not_lt.mp h1) ?_
    refine go_iinc (eD DX8_laysWalls 87 rfl) rfl (by decide) (go_goto (tgt := 7) (eD DX8_laysWalls 88 rfl) rfl (go_iload_n (eD DX8_laysWalls 5 rfl) rfl rfl (go_iconst (eD DX8_laysWalls 6 rfl) (go_icmp_geF (tgt := 170) (eD DX8_laysWalls 7 rfl) rfl (show eI (0 + 1) from by decide) (by decide) (Int.not_le.mpr (show ((0 + 1) : Int) < 4 from by decide)) (?_)))))
    refine go_iload_n (eD DX8_laysWalls 8 rfl) rfl rfl (go_iconst (eD DX8_laysWalls 9 rfl) (go_irem (eD DX8_laysWalls 10 rfl) (show eI (0 + 1) from by decide) (by decide) (show (0 : Int) ≤ (0 + 1) from by decide) (show (0 : Int) < 2 from by decide) (go_if_neT (tgt := 22) (eD DX8_laysWalls 11 rfl) rfl (show eI ((0 + 1) % 2) from by decide) (show ¬ ((((0 + 1) % 2) : Int) = 0) from by decide) (?_))))
    exact go_iconst (eD DX8_laysWalls 14 rfl) (go_istore_n (eD DX8_laysWalls 15 rfl) rfl (by decide) (go_iconst (eD DX8_laysWalls 16 rfl) (go_istore_n (eD DX8_laysWalls 17 rfl) rfl (by decide) (Go.pick [3, 2, 1, 0] rfl (k2 h1)))))
set_option maxRecDepth 20000 in
theorem tX8_laysWalls0_51 {r : Option eV} {w9 : eW} (w : eW) (lane was step : Int) (hM : MB w) (hc : 0 ≤ w 33 33 ∧ w 33 33 ≤ 280) (hl : 0 ≤ lane ∧ lane < (w 33 25)) (hs : 0 ≤ step ∧ step ≤ (w 33 24)) (hw : was = 0 ∨ (was = 1 ∧ 1 ≤ w 33 33)) (k1 : step < (w 33 24) → (insM w step lane ∧ ¬ insM w step (lane - 1)) → was = 0 → Go mX8_laysWalls 51 [(0, eR 33), (1, (0, 0)), (2, (0, 1)), (3, (0, lane)), (4, (0, if (insM w step lane ∧ ¬ insM w step (lane - 1)) then 1 else 0)), (5, (0, step + 1))] [] (wX8_begins w 0 step lane) r w9) (k2 : step < (w 33 24) → (insM w step lane ∧ ¬ insM w step (lane - 1)) → ¬ (was = 0) → Go mX8_laysWalls 51 [(0, eR 33), (1, (0, 0)), (2, (0, 1)), (3, (0, lane)), (4, (0, if (insM w step lane ∧ ¬ insM w step (lane - 1)) then 1 else 0)), (5, (0, step + 1))] [] (eU w 44 ((w 33 33) - 1) ((w 44 ((w 33 33) - 1)) + 1)) r w9) (k3 : step < (w 33 24) → ¬ ((insM w step lane ∧ ¬ insM w step (lane - 1))) → Go mX8_laysWalls 51 [(0, eR 33), (1, (0, 0)), (2, (0, 1)), (3, (0, lane)), (4, (0, if (insM w step lane ∧ ¬ insM w step (lane - 1)) then 1 else 0)), (5, (0, step + 1))] [] w r w9) (k4 : ¬ (step < (w 33 24)) → Go mX8_laysWalls 26 [(0, eR 33), (1, (0, 0)), (2, (0, 1)), (3, (0, lane + 1))] [] w r w9) : Go mX8_laysWalls 51 [(0, eR 33), (1, (0, 0)), (2, (0, 1)), (3, (0, lane)), (4, (0, was)), (5, (0, step))] [] w r w9 := by
  obtain ⟨⟨c1, c2, c3, c4, c5, c6, c7, c8, c9, c10⟩, c11, c12, c13⟩ := id hM
  refine go_iload (eD DX8_laysWalls 31 rfl) rfl (go_iload_n (eD DX8_laysWalls 32 rfl) rfl rfl (go_if_eqF (tgt := 64) (eD DX8_laysWalls 33 rfl) rfl (by decide) (show ¬ ((1 : Int) = 0) from by decide) (?_)))
  refine go_aload_n (eD DX8_laysWalls 34 rfl) rfl rfl (go_getI (kz := 24) (eD DX8_laysWalls 35 rfl) fX8_216 (by decide) rfl rfl rfl (go_goto (tgt := 68) (eD DX8_laysWalls 36 rfl) rfl (?_)))
  by_cases h1 : step < (w 33 24)
  · refine go_icmp_geF (tgt := 158) (eD DX8_laysWalls 39 rfl) rfl (by omega) (show eI (w 33 24) from by omega) (Int.not_le.mpr h1) ?_
    refine go_iload_n (eD DX8_laysWalls 40 rfl) rfl rfl (go_if_eqF (tgt := 80) (eD DX8_laysWalls 41 rfl) rfl (by decide) (show ¬ ((1 : Int) = 0) from by decide) (?_))
    refine go_iload (eD DX8_laysWalls 42 rfl) rfl (go_goto (tgt := 81) (eD DX8_laysWalls 43 rfl) rfl (go_istore (eD DX8_laysWalls 45 rfl) (by decide) (go_iload_n (eD DX8_laysWalls 46 rfl) rfl rfl (go_if_eqF (tgt := 91) (eD DX8_laysWalls 47 rfl) rfl (by decide) (show ¬ ((1 : Int) = 0) from by decide) (?_)))))
    refine go_iload_n (eD DX8_laysWalls 48 rfl) rfl rfl (go_goto (tgt := 93) (eD DX8_laysWalls 49 rfl) rfl (go_istore (eD DX8_laysWalls 51 rfl) (by decide) (go_aload_n (eD DX8_laysWalls 52 rfl) rfl rfl (go_iload (eD DX8_laysWalls 53 rfl) rfl (go_iload (eD DX8_laysWalls 54 rfl) rfl (go_iload_n (eD DX8_laysWalls 55 rfl) rfl rfl (go_callV (ci := 8) [(0, step), (0, lane), (0, 0)] (eD DX8_laysWalls 56 rfl) ⟨eMem 6 71 rfl rfl, sX8_isWalled⟩ ⟨Nat.le_of_ble_eq_true rfl, Nat.le_of_ble_eq_true rfl⟩ (by decide) ⟨rfl, by decide, _, rfl, rfl⟩ rfl rfl (Nat.le_of_ble_eq_true rfl) (y_b_X8_isWalled0 w step lane (by assumption) (by omega)) (go_istore (eD DX8_laysWalls 57 rfl) (by decide) (go_iload (eD DX8_laysWalls 58 rfl) rfl (?_))))))))))
    by_cases h2 : (insM w step lane ∧ ¬ insM w step (lane - 1))
    · refine go_if_eqF (tgt := 134) (eD DX8_laysWalls 59 rfl) rfl (eI_pI _) (pI1 h2) ?_
      refine go_iload (eD DX8_laysWalls 60 rfl) rfl (?_)
      by_cases h3 : was = 0
      · refine go_if_eqT (tgt := 134) (eD DX8_laysWalls 61 rfl) rfl (by omega) h3 ?_
        refine go_iload (eD DX8_laysWalls 74 rfl) rfl (go_if_eqF (tgt := 148) (eD DX8_laysWalls 75 rfl) rfl (eI_pI _) (pI1 h2) (?_))
        exact go_aload_n (eD DX8_laysWalls 76 rfl) rfl rfl (go_iload_n (eD DX8_laysWalls 77 rfl) rfl rfl (go_iload (eD DX8_laysWalls 78 rfl) rfl (go_iload (eD DX8_laysWalls 79 rfl) rfl (go_callV (ci := 8) [(0, 0), (0, step), (0, lane)] (eD DX8_laysWalls 80 rfl) ⟨eMem 6 85 rfl rfl, sX8_begins⟩ ⟨Nat.le_of_ble_eq_true rfl, Nat.le_of_ble_eq_true rfl⟩ (by decide) ⟨rfl, by decide, _, rfl, rfl⟩ rfl rfl (Nat.le_of_ble_eq_true rfl) (zX8_begins w 0 step lane  (by first | assumption | omega)) (go_iload (eD DX8_laysWalls 81 rfl) rfl (go_istore (eD DX8_laysWalls 82 rfl) (by decide) (go_iinc (eD DX8_laysWalls 83 rfl) rfl (by decide) (go_goto (tgt := 51) (eD DX8_laysWalls 84 rfl) rfl (Go.pick [5, 6, 7, 8, 1, 0] rfl (k1 h1 h2 h3))))))))))
      · refine go_if_eqF (tgt := 134) (eD DX8_laysWalls 61 rfl) rfl (by omega) h3 ?_
        exact go_aload_n (eD DX8_laysWalls 62 rfl) rfl rfl (go_getR (t := 44) (eD DX8_laysWalls 63 rfl) fX8_44 (by decide) rfl ⟨rfl, rfl⟩ (go_aload_n (eD DX8_laysWalls 64 rfl) rfl rfl (go_getI (kz := 33) (eD DX8_laysWalls 65 rfl) fX8_247 (by decide) rfl rfl rfl (go_iconst (eD DX8_laysWalls 66 rfl) (go_isub (eD DX8_laysWalls 67 rfl) (go_dup2 (eD DX8_laysWalls 68 rfl) (by simp) (by simp) (go_iald (n := 560) (eD DX8_laysWalls 69 rfl) (by decide) rfl (show 0 ≤ ((w 33 33) - 1) ∧ ((w 33 33) - 1) < 560 from by omega) (go_iconst (eD DX8_laysWalls 70 rfl) (go_iadd (eD DX8_laysWalls 71 rfl) (go_iast (n := 560) (eD DX8_laysWalls 72 rfl) (by decide) rfl (show 0 ≤ ((w 33 33) - 1) ∧ ((w 33 33) - 1) < 560 from by omega) (go_goto (tgt := 148) (eD DX8_laysWalls 73 rfl) rfl (go_iload (eD DX8_laysWalls 81 rfl) rfl (go_istore (eD DX8_laysWalls 82 rfl) (by decide) (go_iinc (eD DX8_laysWalls 83 rfl) rfl (by decide) (go_goto (tgt := 51) (eD DX8_laysWalls 84 rfl) rfl (Go.pick [5, 6, 7, 8, 1, 0] rfl (k2 h1 h2 h3)))))))))))))))))
    · refine go_if_eqT (tgt := 134) (eD DX8_laysWalls 59 rfl) rfl (eI_pI _) (pI0 h2) ?_
      refine go_iload (eD DX8_laysWalls 74 rfl) rfl (go_if_eqT (tgt := 148) (eD DX8_laysWalls 75 rfl) rfl (eI_pI _) (pI0 h2) (?_))
      exact go_iload (eD DX8_laysWalls 81 rfl) rfl (go_istore (eD DX8_laysWalls 82 rfl) (by decide) (go_iinc (eD DX8_laysWalls 83 rfl) rfl (by decide) (go_goto (tgt := 51) (eD DX8_laysWalls 84 rfl) rfl (Go.pick [5, 6, 7, 8, 1, 0] rfl (k3 h1 h2)))))
  · refine go_icmp_geT (tgt := 158) (eD DX8_laysWalls 39 rfl) rfl (by omega) (show eI (w 33 24) from by omega) (Int.not_lt.mp h1) ?_
    exact go_iinc (eD DX8_laysWalls 85 rfl) rfl (by decide) (go_goto (tgt := 26) (eD DX8_laysWalls 86 rfl) rfl (Go.pick [1, 2, 3, 0] rfl (k4 h1)))
set_option maxRecDepth 20000 in
theorem tX8_laysWalls1_26 {r : Option eV} {w9 : eW} (w : eW) (lane : Int) (hM : MB w) (hl : 0 ≤ lane ∧ lane ≤ 14) (k1 : lane < (w 33 24) → Go mX8_laysWalls 51 [(0, eR 33), (1, (0, 1)), (2, (0, 0)), (3, (0, lane)), (4, (0, 0)), (5, (0, 0))] [] w r w9) (k2 : ¬ (lane < (w 33 24)) → Go mX8_laysWalls 26 [(0, eR 33), (1, (0, 1 + 1)), (2, (0, 1)), (3, (0, 0))] [] w r w9) : Go mX8_laysWalls 26 [(0, eR 33), (1, (0, 1)), (2, (0, 0)), (3, (0, lane))] [] w r w9 := by
  obtain ⟨⟨c1, c2, c3, c4, c5, c6, c7, c8, c9, c10⟩, c11, c12, c13⟩ := id hM
  refine go_iload_n (eD DX8_laysWalls 18 rfl) rfl rfl (go_iload_n (eD DX8_laysWalls 19 rfl) rfl rfl (go_if_eqT (tgt := 38) (eD DX8_laysWalls 20 rfl) rfl (by decide) (show (0 : Int) = 0 from by decide) (?_)))
  refine go_aload_n (eD DX8_laysWalls 24 rfl) rfl rfl (go_getI (kz := 24) (eD DX8_laysWalls 25 rfl) fX8_216 (by decide) rfl rfl rfl (?_))
  by_cases h1 : lane < (w 33 24)
  · refine go_icmp_geF (tgt := 164) (eD DX8_laysWalls 26 rfl) rfl (by omega) (show eI (w 33 24) from by omega) (Int.not_le.mpr h1) ?_
    exact go_iconst (eD DX8_laysWalls 27 rfl) (go_istore (eD DX8_laysWalls 28 rfl) (by decide) (go_iconst (eD DX8_laysWalls 29 rfl) (go_istore (eD DX8_laysWalls 30 rfl) (by decide) (Go.pick [2, 3, 4, 5, 1, 0] rfl (k1 h1)))))
  · refine go_icmp_geT (tgt := 164) (eD DX8_laysWalls 26 rfl) rfl (by omega) (show eI (w 33 24) from by omega) (Int.not_lt.mp h1) ?_
    refine go_iinc (eD DX8_laysWalls 87 rfl) rfl (by decide) (go_goto (tgt := 7) (eD DX8_laysWalls 88 rfl) rfl (go_iload_n (eD DX8_laysWalls 5 rfl) rfl rfl (go_iconst (eD DX8_laysWalls 6 rfl) (go_icmp_geF (tgt := 170) (eD DX8_laysWalls 7 rfl) rfl (show eI (1 + 1) from by decide) (by decide) (Int.not_le.mpr (show ((1 + 1) : Int) < 4 from by decide)) (?_)))))
    refine go_iload_n (eD DX8_laysWalls 8 rfl) rfl rfl (go_iconst (eD DX8_laysWalls 9 rfl) (go_irem (eD DX8_laysWalls 10 rfl) (show eI (1 + 1) from by decide) (by decide) (show (0 : Int) ≤ (1 + 1) from by decide) (show (0 : Int) < 2 from by decide) (go_if_neF (tgt := 22) (eD DX8_laysWalls 11 rfl) rfl (show eI ((1 + 1) % 2) from by decide) (not_not_intro (show (((1 + 1) % 2) : Int) = 0 from by decide)) (?_))))
    exact go_iconst (eD DX8_laysWalls 12 rfl) (go_goto (tgt := 23) (eD DX8_laysWalls 13 rfl) rfl (go_istore_n (eD DX8_laysWalls 15 rfl) rfl (by decide) (go_iconst (eD DX8_laysWalls 16 rfl) (go_istore_n (eD DX8_laysWalls 17 rfl) rfl (by decide) (Go.pick [3, 2, 1, 0] rfl (k2 h1))))))
set_option maxRecDepth 20000 in
theorem tX8_laysWalls1_51 {r : Option eV} {w9 : eW} (w : eW) (lane was step : Int) (hM : MB w) (hc : 0 ≤ w 33 33 ∧ w 33 33 ≤ 280) (hl : 0 ≤ lane ∧ lane < (w 33 24)) (hs : 0 ≤ step ∧ step ≤ (w 33 25)) (hw : was = 0 ∨ (was = 1 ∧ 1 ≤ w 33 33)) (k1 : step < (w 33 25) → (insM w lane step ∧ ¬ insM w (lane + 1) step) → was = 0 → Go mX8_laysWalls 51 [(0, eR 33), (1, (0, 1)), (2, (0, 0)), (3, (0, lane)), (4, (0, if (insM w lane step ∧ ¬ insM w (lane + 1) step) then 1 else 0)), (5, (0, step + 1))] [] (wX8_begins w 1 lane step) r w9) (k2 : step < (w 33 25) → (insM w lane step ∧ ¬ insM w (lane + 1) step) → ¬ (was = 0) → Go mX8_laysWalls 51 [(0, eR 33), (1, (0, 1)), (2, (0, 0)), (3, (0, lane)), (4, (0, if (insM w lane step ∧ ¬ insM w (lane + 1) step) then 1 else 0)), (5, (0, step + 1))] [] (eU w 44 ((w 33 33) - 1) ((w 44 ((w 33 33) - 1)) + 1)) r w9) (k3 : step < (w 33 25) → ¬ ((insM w lane step ∧ ¬ insM w (lane + 1) step)) → Go mX8_laysWalls 51 [(0, eR 33), (1, (0, 1)), (2, (0, 0)), (3, (0, lane)), (4, (0, if (insM w lane step ∧ ¬ insM w (lane + 1) step) then 1 else 0)), (5, (0, step + 1))] [] w r w9) (k4 : ¬ (step < (w 33 25)) → Go mX8_laysWalls 26 [(0, eR 33), (1, (0, 1)), (2, (0, 0)), (3, (0, lane + 1))] [] w r w9) : Go mX8_laysWalls 51 [(0, eR 33), (1, (0, 1)), (2, (0, 0)), (3, (0, lane)), (4, (0, was)), (5, (0, step))] [] w r w9 := by
  obtain ⟨⟨c1, c2, c3, c4, c5, c6, c7, c8, c9, c10⟩, c11, c12, c13⟩ := id hM
  refine go_iload (eD DX8_laysWalls 31 rfl) rfl (go_iload_n (eD DX8_laysWalls 32 rfl) rfl rfl (go_if_eqT (tgt := 64) (eD DX8_laysWalls 33 rfl) rfl (by decide) (show (0 : Int) = 0 from by decide) (?_)))
  refine go_aload_n (eD DX8_laysWalls 37 rfl) rfl rfl (go_getI (kz := 25) (eD DX8_laysWalls 38 rfl) fX8_219 (by decide) rfl rfl rfl (?_))
  by_cases h1 : step < (w 33 25)
  · refine go_icmp_geF (tgt := 158) (eD DX8_laysWalls 39 rfl) rfl (by omega) (show eI (w 33 25) from by omega) (Int.not_le.mpr h1) ?_
    refine go_iload_n (eD DX8_laysWalls 40 rfl) rfl rfl (go_if_eqT (tgt := 80) (eD DX8_laysWalls 41 rfl) rfl (by decide) (show (0 : Int) = 0 from by decide) (?_))
    refine go_iload_n (eD DX8_laysWalls 44 rfl) rfl rfl (go_istore (eD DX8_laysWalls 45 rfl) (by decide) (go_iload_n (eD DX8_laysWalls 46 rfl) rfl rfl (go_if_eqT (tgt := 91) (eD DX8_laysWalls 47 rfl) rfl (by decide) (show (0 : Int) = 0 from by decide) (?_))))
    refine go_iload (eD DX8_laysWalls 50 rfl) rfl (go_istore (eD DX8_laysWalls 51 rfl) (by decide) (go_aload_n (eD DX8_laysWalls 52 rfl) rfl rfl (go_iload (eD DX8_laysWalls 53 rfl) rfl (go_iload (eD DX8_laysWalls 54 rfl) rfl (go_iload_n (eD DX8_laysWalls 55 rfl) rfl rfl (go_callV (ci := 8) [(0, lane), (0, step), (0, 1)] (eD DX8_laysWalls 56 rfl) ⟨eMem 6 71 rfl rfl, sX8_isWalled⟩ ⟨Nat.le_of_ble_eq_true rfl, Nat.le_of_ble_eq_true rfl⟩ (by decide) ⟨rfl, by decide, _, rfl, rfl⟩ rfl rfl (Nat.le_of_ble_eq_true rfl) (y_b_X8_isWalled1 w lane step (by assumption) (by omega)) (go_istore (eD DX8_laysWalls 57 rfl) (by decide) (go_iload (eD DX8_laysWalls 58 rfl) rfl (?_)))))))))
    by_cases h2 : (insM w lane step ∧ ¬ insM w (lane + 1) step)
    · refine go_if_eqF (tgt := 134) (eD DX8_laysWalls 59 rfl) rfl (eI_pI _) (pI1 h2) ?_
      refine go_iload (eD DX8_laysWalls 60 rfl) rfl (?_)
      by_cases h3 : was = 0
      · refine go_if_eqT (tgt := 134) (eD DX8_laysWalls 61 rfl) rfl (by omega) h3 ?_
        refine go_iload (eD DX8_laysWalls 74 rfl) rfl (go_if_eqF (tgt := 148) (eD DX8_laysWalls 75 rfl) rfl (eI_pI _) (pI1 h2) (?_))
        exact go_aload_n (eD DX8_laysWalls 76 rfl) rfl rfl (go_iload_n (eD DX8_laysWalls 77 rfl) rfl rfl (go_iload (eD DX8_laysWalls 78 rfl) rfl (go_iload (eD DX8_laysWalls 79 rfl) rfl (go_callV (ci := 8) [(0, 1), (0, lane), (0, step)] (eD DX8_laysWalls 80 rfl) ⟨eMem 6 85 rfl rfl, sX8_begins⟩ ⟨Nat.le_of_ble_eq_true rfl, Nat.le_of_ble_eq_true rfl⟩ (by decide) ⟨rfl, by decide, _, rfl, rfl⟩ rfl rfl (Nat.le_of_ble_eq_true rfl) (zX8_begins w 1 lane step  (by first | assumption | omega)) (go_iload (eD DX8_laysWalls 81 rfl) rfl (go_istore (eD DX8_laysWalls 82 rfl) (by decide) (go_iinc (eD DX8_laysWalls 83 rfl) rfl (by decide) (go_goto (tgt := 51) (eD DX8_laysWalls 84 rfl) rfl (Go.pick [5, 6, 7, 8, 1, 0] rfl (k1 h1 h2 h3))))))))))
      · refine go_if_eqF (tgt := 134) (eD DX8_laysWalls 61 rfl) rfl (by omega) h3 ?_
        exact go_aload_n (eD DX8_laysWalls 62 rfl) rfl rfl (go_getR (t := 44) (eD DX8_laysWalls 63 rfl) fX8_44 (by decide) rfl ⟨rfl, rfl⟩ (go_aload_n (eD DX8_laysWalls 64 rfl) rfl rfl (go_getI (kz := 33) (eD DX8_laysWalls 65 rfl) fX8_247 (by decide) rfl rfl rfl (go_iconst (eD DX8_laysWalls 66 rfl) (go_isub (eD DX8_laysWalls 67 rfl) (go_dup2 (eD DX8_laysWalls 68 rfl) (by simp) (by simp) (go_iald (n := 560) (eD DX8_laysWalls 69 rfl) (by decide) rfl (show 0 ≤ ((w 33 33) - 1) ∧ ((w 33 33) - 1) < 560 from by omega) (go_iconst (eD DX8_laysWalls 70 rfl) (go_iadd (eD DX8_laysWalls 71 rfl) (go_iast (n := 560) (eD DX8_laysWalls 72 rfl) (by decide) rfl (show 0 ≤ ((w 33 33) - 1) ∧ ((w 33 33) - 1) < 560 from by omega) (go_goto (tgt := 148) (eD DX8_laysWalls 73 rfl) rfl (go_iload (eD DX8_laysWalls 81 rfl) rfl (go_istore (eD DX8_laysWalls 82 rfl) (by decide) (go_iinc (eD DX8_laysWalls 83 rfl) rfl (by decide) (go_goto (tgt := 51) (eD DX8_laysWalls 84 rfl) rfl (Go.pick [5, 6, 7, 8, 1, 0] rfl (k2 h1 h2 h3)))))))))))))))))
    · refine go_if_eqT (tgt := 134) (eD DX8_laysWalls 59 rfl) rfl (eI_pI _) (pI0 h2) ?_
      refine go_iload (eD DX8_laysWalls 74 rfl) rfl (go_if_eqT (tgt := 148) (eD DX8_laysWalls 75 rfl) rfl (eI_pI _) (pI0 h2) (?_))
      exact go_iload (eD DX8_laysWalls 81 rfl) rfl (go_istore (eD DX8_laysWalls 82 rfl) (by decide) (go_iinc (eD DX8_laysWalls 83 rfl) rfl (by decide) (go_goto (tgt := 51) (eD DX8_laysWalls 84 rfl) rfl (Go.pick [5, 6, 7, 8, 1, 0] rfl (k3 h1 h2)))))
  · refine go_icmp_geT (tgt := 158) (eD DX8_laysWalls 39 rfl) rfl (by omega) (show eI (w 33 25) from by omega) (Int.not_lt.mp h1) ?_
    exact go_iinc (eD DX8_laysWalls 85 rfl) rfl (by decide) (go_goto (tgt := 26) (eD DX8_laysWalls 86 rfl) rfl (Go.pick [1, 2, 3, 0] rfl (k4 h1)))
set_option maxRecDepth 20000 in
theorem tX8_laysWalls2_26 {r : Option eV} {w9 : eW} (w : eW) (lane : Int) (hM : MB w) (hl : 0 ≤ lane ∧ lane ≤ 14) (k1 : lane < (w 33 25) → Go mX8_laysWalls 51 [(0, eR 33), (1, (0, 2)), (2, (0, 1)), (3, (0, lane)), (4, (0, 0)), (5, (0, 0))] [] w r w9) (k2 : ¬ (lane < (w 33 25)) → Go mX8_laysWalls 26 [(0, eR 33), (1, (0, 2 + 1)), (2, (0, 0)), (3, (0, 0))] [] w r w9) : Go mX8_laysWalls 26 [(0, eR 33), (1, (0, 2)), (2, (0, 1)), (3, (0, lane))] [] w r w9 := by
  obtain ⟨⟨c1, c2, c3, c4, c5, c6, c7, c8, c9, c10⟩, c11, c12, c13⟩ := id hM
  refine go_iload_n (eD DX8_laysWalls 18 rfl) rfl rfl (go_iload_n (eD DX8_laysWalls 19 rfl) rfl rfl (go_if_eqF (tgt := 38) (eD DX8_laysWalls 20 rfl) rfl (by decide) (show ¬ ((1 : Int) = 0) from by decide) (?_)))
  refine go_aload_n (eD DX8_laysWalls 21 rfl) rfl rfl (go_getI (kz := 25) (eD DX8_laysWalls 22 rfl) fX8_219 (by decide) rfl rfl rfl (go_goto (tgt := 42) (eD DX8_laysWalls 23 rfl) rfl (?_)))
  by_cases h1 : lane < (w 33 25)
  · refine go_icmp_geF (tgt := 164) (eD DX8_laysWalls 26 rfl) rfl (by omega) (show eI (w 33 25) from by omega) (Int.not_le.mpr h1) ?_
    exact go_iconst (eD DX8_laysWalls 27 rfl) (go_istore (eD DX8_laysWalls 28 rfl) (by decide) (go_iconst (eD DX8_laysWalls 29 rfl) (go_istore (eD DX8_laysWalls 30 rfl) (by decide) (Go.pick [2, 3, 4, 5, 1, 0] rfl (k1 h1)))))
  · refine go_icmp_geT (tgt := 164) (eD DX8_laysWalls 26 rfl) rfl (by omega) (show eI (w 33 25) from by omega) (Int.not_lt.mp h1) ?_
    refine go_iinc (eD DX8_laysWalls 87 rfl) rfl (by decide) (go_goto (tgt := 7) (eD DX8_laysWalls 88 rfl) rfl (go_iload_n (eD DX8_laysWalls 5 rfl) rfl rfl (go_iconst (eD DX8_laysWalls 6 rfl) (go_icmp_geF (tgt := 170) (eD DX8_laysWalls 7 rfl) rfl (show eI (2 + 1) from by decide) (by decide) (Int.not_le.mpr (show ((2 + 1) : Int) < 4 from by decide)) (?_)))))
    refine go_iload_n (eD DX8_laysWalls 8 rfl) rfl rfl (go_iconst (eD DX8_laysWalls 9 rfl) (go_irem (eD DX8_laysWalls 10 rfl) (show eI (2 + 1) from by decide) (by decide) (show (0 : Int) ≤ (2 + 1) from by decide) (show (0 : Int) < 2 from by decide) (go_if_neT (tgt := 22) (eD DX8_laysWalls 11 rfl) rfl (show eI ((2 + 1) % 2) from by decide) (show ¬ ((((2 + 1) % 2) : Int) = 0) from by decide) (?_))))
    exact go_iconst (eD DX8_laysWalls 14 rfl) (go_istore_n (eD DX8_laysWalls 15 rfl) rfl (by decide) (go_iconst (eD DX8_laysWalls 16 rfl) (go_istore_n (eD DX8_laysWalls 17 rfl) rfl (by decide) (Go.pick [3, 2, 1, 0] rfl (k2 h1)))))
set_option maxRecDepth 20000 in
theorem tX8_laysWalls2_51 {r : Option eV} {w9 : eW} (w : eW) (lane was step : Int) (hM : MB w) (hc : 0 ≤ w 33 33 ∧ w 33 33 ≤ 280) (hl : 0 ≤ lane ∧ lane < (w 33 25)) (hs : 0 ≤ step ∧ step ≤ (w 33 24)) (hw : was = 0 ∨ (was = 1 ∧ 1 ≤ w 33 33)) (k1 : step < (w 33 24) → (insM w step lane ∧ ¬ insM w step (lane + 1)) → was = 0 → Go mX8_laysWalls 51 [(0, eR 33), (1, (0, 2)), (2, (0, 1)), (3, (0, lane)), (4, (0, if (insM w step lane ∧ ¬ insM w step (lane + 1)) then 1 else 0)), (5, (0, step + 1))] [] (wX8_begins w 2 step lane) r w9) (k2 : step < (w 33 24) → (insM w step lane ∧ ¬ insM w step (lane + 1)) → ¬ (was = 0) → Go mX8_laysWalls 51 [(0, eR 33), (1, (0, 2)), (2, (0, 1)), (3, (0, lane)), (4, (0, if (insM w step lane ∧ ¬ insM w step (lane + 1)) then 1 else 0)), (5, (0, step + 1))] [] (eU w 44 ((w 33 33) - 1) ((w 44 ((w 33 33) - 1)) + 1)) r w9) (k3 : step < (w 33 24) → ¬ ((insM w step lane ∧ ¬ insM w step (lane + 1))) → Go mX8_laysWalls 51 [(0, eR 33), (1, (0, 2)), (2, (0, 1)), (3, (0, lane)), (4, (0, if (insM w step lane ∧ ¬ insM w step (lane + 1)) then 1 else 0)), (5, (0, step + 1))] [] w r w9) (k4 : ¬ (step < (w 33 24)) → Go mX8_laysWalls 26 [(0, eR 33), (1, (0, 2)), (2, (0, 1)), (3, (0, lane + 1))] [] w r w9) : Go mX8_laysWalls 51 [(0, eR 33), (1, (0, 2)), (2, (0, 1)), (3, (0, lane)), (4, (0, was)), (5, (0, step))] [] w r w9 := by
  obtain ⟨⟨c1, c2, c3, c4, c5, c6, c7, c8, c9, c10⟩, c11, c12, c13⟩ := id hM
  refine go_iload (eD DX8_laysWalls 31 rfl) rfl (go_iload_n (eD DX8_laysWalls 32 rfl) rfl rfl (go_if_eqF (tgt := 64) (eD DX8_laysWalls 33 rfl) rfl (by decide) (show ¬ ((1 : Int) = 0) from by decide) (?_)))
  refine go_aload_n (eD DX8_laysWalls 34 rfl) rfl rfl (go_getI (kz := 24) (eD DX8_laysWalls 35 rfl) fX8_216 (by decide) rfl rfl rfl (go_goto (tgt := 68) (eD DX8_laysWalls 36 rfl) rfl (?_)))
  by_cases h1 : step < (w 33 24)
  · refine go_icmp_geF (tgt := 158) (eD DX8_laysWalls 39 rfl) rfl (by omega) (show eI (w 33 24) from by omega) (Int.not_le.mpr h1) ?_
    refine go_iload_n (eD DX8_laysWalls 40 rfl) rfl rfl (go_if_eqF (tgt := 80) (eD DX8_laysWalls 41 rfl) rfl (by decide) (show ¬ ((1 : Int) = 0) from by decide) (?_))
    refine go_iload (eD DX8_laysWalls 42 rfl) rfl (go_goto (tgt := 81) (eD DX8_laysWalls 43 rfl) rfl (go_istore (eD DX8_laysWalls 45 rfl) (by decide) (go_iload_n (eD DX8_laysWalls 46 rfl) rfl rfl (go_if_eqF (tgt := 91) (eD DX8_laysWalls 47 rfl) rfl (by decide) (show ¬ ((1 : Int) = 0) from by decide) (?_)))))
    refine go_iload_n (eD DX8_laysWalls 48 rfl) rfl rfl (go_goto (tgt := 93) (eD DX8_laysWalls 49 rfl) rfl (go_istore (eD DX8_laysWalls 51 rfl) (by decide) (go_aload_n (eD DX8_laysWalls 52 rfl) rfl rfl (go_iload (eD DX8_laysWalls 53 rfl) rfl (go_iload (eD DX8_laysWalls 54 rfl) rfl (go_iload_n (eD DX8_laysWalls 55 rfl) rfl rfl (go_callV (ci := 8) [(0, step), (0, lane), (0, 2)] (eD DX8_laysWalls 56 rfl) ⟨eMem 6 71 rfl rfl, sX8_isWalled⟩ ⟨Nat.le_of_ble_eq_true rfl, Nat.le_of_ble_eq_true rfl⟩ (by decide) ⟨rfl, by decide, _, rfl, rfl⟩ rfl rfl (Nat.le_of_ble_eq_true rfl) (y_b_X8_isWalled2 w step lane (by assumption) (by omega)) (go_istore (eD DX8_laysWalls 57 rfl) (by decide) (go_iload (eD DX8_laysWalls 58 rfl) rfl (?_))))))))))
    by_cases h2 : (insM w step lane ∧ ¬ insM w step (lane + 1))
    · refine go_if_eqF (tgt := 134) (eD DX8_laysWalls 59 rfl) rfl (eI_pI _) (pI1 h2) ?_
      refine go_iload (eD DX8_laysWalls 60 rfl) rfl (?_)
      by_cases h3 : was = 0
      · refine go_if_eqT (tgt := 134) (eD DX8_laysWalls 61 rfl) rfl (by omega) h3 ?_
        refine go_iload (eD DX8_laysWalls 74 rfl) rfl (go_if_eqF (tgt := 148) (eD DX8_laysWalls 75 rfl) rfl (eI_pI _) (pI1 h2) (?_))
        exact go_aload_n (eD DX8_laysWalls 76 rfl) rfl rfl (go_iload_n (eD DX8_laysWalls 77 rfl) rfl rfl (go_iload (eD DX8_laysWalls 78 rfl) rfl (go_iload (eD DX8_laysWalls 79 rfl) rfl (go_callV (ci := 8) [(0, 2), (0, step), (0, lane)] (eD DX8_laysWalls 80 rfl) ⟨eMem 6 85 rfl rfl, sX8_begins⟩ ⟨Nat.le_of_ble_eq_true rfl, Nat.le_of_ble_eq_true rfl⟩ (by decide) ⟨rfl, by decide, _, rfl, rfl⟩ rfl rfl (Nat.le_of_ble_eq_true rfl) (zX8_begins w 2 step lane  (by first | assumption | omega)) (go_iload (eD DX8_laysWalls 81 rfl) rfl (go_istore (eD DX8_laysWalls 82 rfl) (by decide) (go_iinc (eD DX8_laysWalls 83 rfl) rfl (by decide) (go_goto (tgt := 51) (eD DX8_laysWalls 84 rfl) rfl (Go.pick [5, 6, 7, 8, 1, 0] rfl (k1 h1 h2 h3))))))))))
      · refine go_if_eqF (tgt := 134) (eD DX8_laysWalls 61 rfl) rfl (by omega) h3 ?_
        exact go_aload_n (eD DX8_laysWalls 62 rfl) rfl rfl (go_getR (t := 44) (eD DX8_laysWalls 63 rfl) fX8_44 (by decide) rfl ⟨rfl, rfl⟩ (go_aload_n (eD DX8_laysWalls 64 rfl) rfl rfl (go_getI (kz := 33) (eD DX8_laysWalls 65 rfl) fX8_247 (by decide) rfl rfl rfl (go_iconst (eD DX8_laysWalls 66 rfl) (go_isub (eD DX8_laysWalls 67 rfl) (go_dup2 (eD DX8_laysWalls 68 rfl) (by simp) (by simp) (go_iald (n := 560) (eD DX8_laysWalls 69 rfl) (by decide) rfl (show 0 ≤ ((w 33 33) - 1) ∧ ((w 33 33) - 1) < 560 from by omega) (go_iconst (eD DX8_laysWalls 70 rfl) (go_iadd (eD DX8_laysWalls 71 rfl) (go_iast (n := 560) (eD DX8_laysWalls 72 rfl) (by decide) rfl (show 0 ≤ ((w 33 33) - 1) ∧ ((w 33 33) - 1) < 560 from by omega) (go_goto (tgt := 148) (eD DX8_laysWalls 73 rfl) rfl (go_iload (eD DX8_laysWalls 81 rfl) rfl (go_istore (eD DX8_laysWalls 82 rfl) (by decide) (go_iinc (eD DX8_laysWalls 83 rfl) rfl (by decide) (go_goto (tgt := 51) (eD DX8_laysWalls 84 rfl) rfl (Go.pick [5, 6, 7, 8, 1, 0] rfl (k2 h1 h2 h3)))))))))))))))))
    · refine go_if_eqT (tgt := 134) (eD DX8_laysWalls 59 rfl) rfl (eI_pI _) (pI0 h2) ?_
      refine go_iload (eD DX8_laysWalls 74 rfl) rfl (go_if_eqT (tgt := 148) (eD DX8_laysWalls 75 rfl) rfl (eI_pI _) (pI0 h2) (?_))
      exact go_iload (eD DX8_laysWalls 81 rfl) rfl (go_istore (eD DX8_laysWalls 82 rfl) (by decide) (go_iinc (eD DX8_laysWalls 83 rfl) rfl (by decide) (go_goto (tgt := 51) (eD DX8_laysWalls 84 rfl) rfl (Go.pick [5, 6, 7, 8, 1, 0] rfl (k3 h1 h2)))))
  · refine go_icmp_geT (tgt := 158) (eD DX8_laysWalls 39 rfl) rfl (by omega) (show eI (w 33 24) from by omega) (Int.not_lt.mp h1) ?_
    exact go_iinc (eD DX8_laysWalls 85 rfl) rfl (by decide) (go_goto (tgt := 26) (eD DX8_laysWalls 86 rfl) rfl (Go.pick [1, 2, 3, 0] rfl (k4 h1)))
set_option maxRecDepth 20000 in
theorem tX8_laysWalls3_26 {r : Option eV} {w9 : eW} (w : eW) (lane : Int) (hM : MB w) (hl : 0 ≤ lane ∧ lane ≤ 14) (k1 : lane < (w 33 24) → Go mX8_laysWalls 51 [(0, eR 33), (1, (0, 3)), (2, (0, 0)), (3, (0, lane)), (4, (0, 0)), (5, (0, 0))] [] w r w9) (k2 : ¬ (lane < (w 33 24)) → r = none ∧ w9 = w) : Go mX8_laysWalls 26 [(0, eR 33), (1, (0, 3)), (2, (0, 0)), (3, (0, lane))] [] w r w9 := by
  obtain ⟨⟨c1, c2, c3, c4, c5, c6, c7, c8, c9, c10⟩, c11, c12, c13⟩ := id hM
  refine go_iload_n (eD DX8_laysWalls 18 rfl) rfl rfl (go_iload_n (eD DX8_laysWalls 19 rfl) rfl rfl (go_if_eqT (tgt := 38) (eD DX8_laysWalls 20 rfl) rfl (by decide) (show (0 : Int) = 0 from by decide) (?_)))
  refine go_aload_n (eD DX8_laysWalls 24 rfl) rfl rfl (go_getI (kz := 24) (eD DX8_laysWalls 25 rfl) fX8_216 (by decide) rfl rfl rfl (?_))
  by_cases h1 : lane < (w 33 24)
  · refine go_icmp_geF (tgt := 164) (eD DX8_laysWalls 26 rfl) rfl (by omega) (show eI (w 33 24) from by omega) (Int.not_le.mpr h1) ?_
    exact go_iconst (eD DX8_laysWalls 27 rfl) (go_istore (eD DX8_laysWalls 28 rfl) (by decide) (go_iconst (eD DX8_laysWalls 29 rfl) (go_istore (eD DX8_laysWalls 30 rfl) (by decide) (Go.pick [2, 3, 4, 5, 1, 0] rfl (k1 h1)))))
  · refine go_icmp_geT (tgt := 164) (eD DX8_laysWalls 26 rfl) rfl (by omega) (show eI (w 33 24) from by omega) (Int.not_lt.mp h1) ?_
    refine go_iinc (eD DX8_laysWalls 87 rfl) rfl (by decide) (go_goto (tgt := 7) (eD DX8_laysWalls 88 rfl) rfl (go_iload_n (eD DX8_laysWalls 5 rfl) rfl rfl (go_iconst (eD DX8_laysWalls 6 rfl) (go_icmp_geT (tgt := 170) (eD DX8_laysWalls 7 rfl) rfl (show eI (3 + 1) from by decide) (by decide) (Int.not_lt.mp (show ¬ (((3 + 1) : Int) < 4) from by decide)) (?_)))))
    rw [(k2 h1).1, (k2 h1).2]
    exact go_vret (eD DX8_laysWalls 89 rfl) rfl
set_option maxRecDepth 20000 in
theorem tX8_laysWalls3_51 {r : Option eV} {w9 : eW} (w : eW) (lane was step : Int) (hM : MB w) (hc : 0 ≤ w 33 33 ∧ w 33 33 ≤ 280) (hl : 0 ≤ lane ∧ lane < (w 33 24)) (hs : 0 ≤ step ∧ step ≤ (w 33 25)) (hw : was = 0 ∨ (was = 1 ∧ 1 ≤ w 33 33)) (k1 : step < (w 33 25) → (insM w lane step ∧ ¬ insM w (lane - 1) step) → was = 0 → Go mX8_laysWalls 51 [(0, eR 33), (1, (0, 3)), (2, (0, 0)), (3, (0, lane)), (4, (0, if (insM w lane step ∧ ¬ insM w (lane - 1) step) then 1 else 0)), (5, (0, step + 1))] [] (wX8_begins w 3 lane step) r w9) (k2 : step < (w 33 25) → (insM w lane step ∧ ¬ insM w (lane - 1) step) → ¬ (was = 0) → Go mX8_laysWalls 51 [(0, eR 33), (1, (0, 3)), (2, (0, 0)), (3, (0, lane)), (4, (0, if (insM w lane step ∧ ¬ insM w (lane - 1) step) then 1 else 0)), (5, (0, step + 1))] [] (eU w 44 ((w 33 33) - 1) ((w 44 ((w 33 33) - 1)) + 1)) r w9) (k3 : step < (w 33 25) → ¬ ((insM w lane step ∧ ¬ insM w (lane - 1) step)) → Go mX8_laysWalls 51 [(0, eR 33), (1, (0, 3)), (2, (0, 0)), (3, (0, lane)), (4, (0, if (insM w lane step ∧ ¬ insM w (lane - 1) step) then 1 else 0)), (5, (0, step + 1))] [] w r w9) (k4 : ¬ (step < (w 33 25)) → Go mX8_laysWalls 26 [(0, eR 33), (1, (0, 3)), (2, (0, 0)), (3, (0, lane + 1))] [] w r w9) : Go mX8_laysWalls 51 [(0, eR 33), (1, (0, 3)), (2, (0, 0)), (3, (0, lane)), (4, (0, was)), (5, (0, step))] [] w r w9 := by
  obtain ⟨⟨c1, c2, c3, c4, c5, c6, c7, c8, c9, c10⟩, c11, c12, c13⟩ := id hM
  refine go_iload (eD DX8_laysWalls 31 rfl) rfl (go_iload_n (eD DX8_laysWalls 32 rfl) rfl rfl (go_if_eqT (tgt := 64) (eD DX8_laysWalls 33 rfl) rfl (by decide) (show (0 : Int) = 0 from by decide) (?_)))
  refine go_aload_n (eD DX8_laysWalls 37 rfl) rfl rfl (go_getI (kz := 25) (eD DX8_laysWalls 38 rfl) fX8_219 (by decide) rfl rfl rfl (?_))
  by_cases h1 : step < (w 33 25)
  · refine go_icmp_geF (tgt := 158) (eD DX8_laysWalls 39 rfl) rfl (by omega) (show eI (w 33 25) from by omega) (Int.not_le.mpr h1) ?_
    refine go_iload_n (eD DX8_laysWalls 40 rfl) rfl rfl (go_if_eqT (tgt := 80) (eD DX8_laysWalls 41 rfl) rfl (by decide) (show (0 : Int) = 0 from by decide) (?_))
    refine go_iload_n (eD DX8_laysWalls 44 rfl) rfl rfl (go_istore (eD DX8_laysWalls 45 rfl) (by decide) (go_iload_n (eD DX8_laysWalls 46 rfl) rfl rfl (go_if_eqT (tgt := 91) (eD DX8_laysWalls 47 rfl) rfl (by decide) (show (0 : Int) = 0 from by decide) (?_))))
    refine go_iload (eD DX8_laysWalls 50 rfl) rfl (go_istore (eD DX8_laysWalls 51 rfl) (by decide) (go_aload_n (eD DX8_laysWalls 52 rfl) rfl rfl (go_iload (eD DX8_laysWalls 53 rfl) rfl (go_iload (eD DX8_laysWalls 54 rfl) rfl (go_iload_n (eD DX8_laysWalls 55 rfl) rfl rfl (go_callV (ci := 8) [(0, lane), (0, step), (0, 3)] (eD DX8_laysWalls 56 rfl) ⟨eMem 6 71 rfl rfl, sX8_isWalled⟩ ⟨Nat.le_of_ble_eq_true rfl, Nat.le_of_ble_eq_true rfl⟩ (by decide) ⟨rfl, by decide, _, rfl, rfl⟩ rfl rfl (Nat.le_of_ble_eq_true rfl) (y_b_X8_isWalled3 w lane step (by assumption) (by omega)) (go_istore (eD DX8_laysWalls 57 rfl) (by decide) (go_iload (eD DX8_laysWalls 58 rfl) rfl (?_)))))))))
    by_cases h2 : (insM w lane step ∧ ¬ insM w (lane - 1) step)
    · refine go_if_eqF (tgt := 134) (eD DX8_laysWalls 59 rfl) rfl (eI_pI _) (pI1 h2) ?_
      refine go_iload (eD DX8_laysWalls 60 rfl) rfl (?_)
      by_cases h3 : was = 0
      · refine go_if_eqT (tgt := 134) (eD DX8_laysWalls 61 rfl) rfl (by omega) h3 ?_
        refine go_iload (eD DX8_laysWalls 74 rfl) rfl (go_if_eqF (tgt := 148) (eD DX8_laysWalls 75 rfl) rfl (eI_pI _) (pI1 h2) (?_))
        exact go_aload_n (eD DX8_laysWalls 76 rfl) rfl rfl (go_iload_n (eD DX8_laysWalls 77 rfl) rfl rfl (go_iload (eD DX8_laysWalls 78 rfl) rfl (go_iload (eD DX8_laysWalls 79 rfl) rfl (go_callV (ci := 8) [(0, 3), (0, lane), (0, step)] (eD DX8_laysWalls 80 rfl) ⟨eMem 6 85 rfl rfl, sX8_begins⟩ ⟨Nat.le_of_ble_eq_true rfl, Nat.le_of_ble_eq_true rfl⟩ (by decide) ⟨rfl, by decide, _, rfl, rfl⟩ rfl rfl (Nat.le_of_ble_eq_true rfl) (zX8_begins w 3 lane step  (by first | assumption | omega)) (go_iload (eD DX8_laysWalls 81 rfl) rfl (go_istore (eD DX8_laysWalls 82 rfl) (by decide) (go_iinc (eD DX8_laysWalls 83 rfl) rfl (by decide) (go_goto (tgt := 51) (eD DX8_laysWalls 84 rfl) rfl (Go.pick [5, 6, 7, 8, 1, 0] rfl (k1 h1 h2 h3))))))))))
      · refine go_if_eqF (tgt := 134) (eD DX8_laysWalls 61 rfl) rfl (by omega) h3 ?_
        exact go_aload_n (eD DX8_laysWalls 62 rfl) rfl rfl (go_getR (t := 44) (eD DX8_laysWalls 63 rfl) fX8_44 (by decide) rfl ⟨rfl, rfl⟩ (go_aload_n (eD DX8_laysWalls 64 rfl) rfl rfl (go_getI (kz := 33) (eD DX8_laysWalls 65 rfl) fX8_247 (by decide) rfl rfl rfl (go_iconst (eD DX8_laysWalls 66 rfl) (go_isub (eD DX8_laysWalls 67 rfl) (go_dup2 (eD DX8_laysWalls 68 rfl) (by simp) (by simp) (go_iald (n := 560) (eD DX8_laysWalls 69 rfl) (by decide) rfl (show 0 ≤ ((w 33 33) - 1) ∧ ((w 33 33) - 1) < 560 from by omega) (go_iconst (eD DX8_laysWalls 70 rfl) (go_iadd (eD DX8_laysWalls 71 rfl) (go_iast (n := 560) (eD DX8_laysWalls 72 rfl) (by decide) rfl (show 0 ≤ ((w 33 33) - 1) ∧ ((w 33 33) - 1) < 560 from by omega) (go_goto (tgt := 148) (eD DX8_laysWalls 73 rfl) rfl (go_iload (eD DX8_laysWalls 81 rfl) rfl (go_istore (eD DX8_laysWalls 82 rfl) (by decide) (go_iinc (eD DX8_laysWalls 83 rfl) rfl (by decide) (go_goto (tgt := 51) (eD DX8_laysWalls 84 rfl) rfl (Go.pick [5, 6, 7, 8, 1, 0] rfl (k2 h1 h2 h3)))))))))))))))))
    · refine go_if_eqT (tgt := 134) (eD DX8_laysWalls 59 rfl) rfl (eI_pI _) (pI0 h2) ?_
      refine go_iload (eD DX8_laysWalls 74 rfl) rfl (go_if_eqT (tgt := 148) (eD DX8_laysWalls 75 rfl) rfl (eI_pI _) (pI0 h2) (?_))
      exact go_iload (eD DX8_laysWalls 81 rfl) rfl (go_istore (eD DX8_laysWalls 82 rfl) (by decide) (go_iinc (eD DX8_laysWalls 83 rfl) rfl (by decide) (go_goto (tgt := 51) (eD DX8_laysWalls 84 rfl) rfl (Go.pick [5, 6, 7, 8, 1, 0] rfl (k3 h1 h2)))))
  · refine go_icmp_geT (tgt := 158) (eD DX8_laysWalls 39 rfl) rfl (by omega) (show eI (w 33 25) from by omega) (Int.not_lt.mp h1) ?_
    exact go_iinc (eD DX8_laysWalls 85 rfl) rfl (by decide) (go_goto (tgt := 26) (eD DX8_laysWalls 86 rfl) rfl (Go.pick [1, 2, 3, 0] rfl (k4 h1)))
/-- the model's cells hold the walls S -/
def RM (w S : eW) : Prop := w 33 33 = S 0 0 ∧ ∀ i, 0 ≤ i → i < S 0 0 → w 41 i = S 1 i ∧ w 42 i = S 2 i ∧ w 43 i = S 3 i ∧ w 44 i = S 4 i
theorem RM_begin {w S : eW} (h : RM w S) (hc : 0 ≤ S 0 0) (side x y : Int) : RM (wX8_begins w side x y) (wLenS (wBegS S side x y) side x y) := by
  obtain ⟨h1, h2⟩ := h
  refine ⟨?_, fun i g1 g2 => ?_⟩
  · rw [wLenS_n, wBegS_n]
    show w 33 33 + 1 = _
    rw [h1]
  · rw [wLenS_n, wBegS_n] at g2
    unfold wX8_begins
    by_cases hi : i = S 0 0
    · subst hi
      refine ⟨?_, ?_, ?_, ?_⟩
      · show (if S 0 0 = w 33 33 then side else _) = (if S 0 0 = S 0 0 then side else _)
        rw [if_pos h1.symm, if_pos rfl]
      · show (if S 0 0 = w 33 33 then x else _) = (if S 0 0 = S 0 0 then x else _)
        rw [if_pos h1.symm, if_pos rfl]
      · show (if S 0 0 = w 33 33 then y else _) = (if S 0 0 = S 0 0 then y else _)
        rw [if_pos h1.symm, if_pos rfl]
      · show (if S 0 0 = w 33 33 then 1 else _) = wLenS (wBegS S side x y) side x y 4 (S 0 0)
        unfold wLenS
        rw [if_pos h1.symm, eU_ne (by decide), eU_get, wBegS_n, if_pos (by omega), show S 0 0 + 1 - 1 = S 0 0 by omega]
        show (1 : Int) = (if S 0 0 = S 0 0 then 0 else _) + 1
        rw [if_pos rfl]
        rfl
    · obtain ⟨q1, q2, q3, q4⟩ := h2 i g1 (by omega)
      refine ⟨?_, ?_, ?_, ?_⟩
      · show (if i = w 33 33 then side else w 41 i) = (if i = S 0 0 then side else S 1 i)
        rw [if_neg (by omega), if_neg hi, q1]
      · show (if i = w 33 33 then x else w 42 i) = (if i = S 0 0 then x else S 2 i)
        rw [if_neg (by omega), if_neg hi, q2]
      · show (if i = w 33 33 then y else w 43 i) = (if i = S 0 0 then y else S 3 i)
        rw [if_neg (by omega), if_neg hi, q3]
      · show (if i = w 33 33 then 1 else w 44 i) = wLenS (wBegS S side x y) side x y 4 i
        unfold wLenS
        rw [if_neg (by omega), eU_ne (by decide), eU_get, wBegS_n, if_neg (by omega)]
        show _ = (if i = S 0 0 then 0 else S 4 i)
        rw [if_neg hi, q4]
theorem RM_len {w S : eW} (h : RM w S) (hc : 1 ≤ S 0 0) (side x y : Int) : RM (eU w 44 (w 33 33 - 1) (w 44 (w 33 33 - 1) + 1)) (wLenS S side x y) := by
  obtain ⟨h1, h2⟩ := h
  refine ⟨?_, fun i g1 g2 => ?_⟩
  · rw [wLenS_n]
    exact h1
  · rw [wLenS_n] at g2
    obtain ⟨q1, q2, q3, q4⟩ := h2 i g1 g2
    obtain ⟨-, -, -, l4⟩ := h2 (S 0 0 - 1) (by omega) (by omega)
    refine ⟨q1, q2, q3, ?_⟩
    unfold wLenS
    rw [eU_get, eU_ne (by decide), eU_get, h1, l4]
    by_cases hi : i = S 0 0 - 1
    · rw [if_pos hi, if_pos hi]
    · rw [if_neg hi, if_neg hi, q4]
def gM (w : eW) : Int → Int → Int := fun x y => if insM w x y then 1 else 0
theorem gM_1 {w : eW} {x y : Int} : gM w x y = 1 ↔ insM w x y := by
  unfold gM
  by_cases h : insM w x y
  · rw [if_pos h]; exact ⟨fun _ => h, fun _ => rfl⟩
  · rw [if_neg h]; exact ⟨fun q => absurd q (by decide), fun q => absurd q h⟩
/-- only the walls' cells, and how many, change -/
def FrW (w w0 : eW) : Prop := Fr [33, 41, 42, 43, 44] w w0 ∧ ∀ i, i ≠ 33 → w0 33 i = w 33 i
theorem FrW.rf {w : eW} : FrW w w := ⟨Fr.rf, fun _ _ => rfl⟩
theorem FrW.mb {w w0 : eW} (h : FrW w w0) (hM : MB w) : MB w0 := by
  unfold MB at hM ⊢
  rw [h.1 38 (by decide), h.1 40 (by decide), h.2 24 (by decide), h.2 25 (by decide), h.2 26 (by decide), h.2 27 (by decide), h.2 28 (by decide)]
  exact hM
theorem FrW.ins {w w0 : eW} (h : FrW w w0) (x y : Int) : insM w0 x y = insM w x y := insM_of (h.2 24 (by decide)) (h.2 25 (by decide)) (h.1 38 (by decide)) x y
