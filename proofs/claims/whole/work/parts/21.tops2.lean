def rX8_set (w : eW) (x y b : Int) : Int := if (w 33 28) = 1 ∧ 0 ≤ x ∧ x ≤ (w 33 24) - 1 ∧ 0 ≤ y ∧ y ≤ (w 33 25) - 1 then (if (if insM (eU w 33 0 0) x y then 1 else 0) = b then (-1) else (if insM (eU w 33 0 0) x y ∧ sumI ((eU w 33 0 0) 38) 0 140 = 1 then (-1) else (if b = 0 then (sumI ((eU (wRem (eU w 33 0 0)) 38 ((14 * y) + x) 0) 38) 0 140) else (sumI ((eU (wRem (eU w 33 0 0)) 38 ((14 * y) + x) 1) 38) 0 140)))) else (-1)
def wX8_set (w : eW) (x y b : Int) : eW := if (w 33 28) = 1 ∧ 0 ≤ x ∧ x ≤ (w 33 24) - 1 ∧ 0 ≤ y ∧ y ≤ (w 33 25) - 1 then (if (if insM (eU w 33 0 0) x y then 1 else 0) = b then (eU (eU (eU w 33 0 0) 33 1 5) 33 2 (-1)) else (if insM (eU w 33 0 0) x y ∧ sumI ((eU w 33 0 0) 38) 0 140 = 1 then (eU (eU (eU w 33 0 0) 33 1 5) 33 2 (-1)) else (if b = 0 then (eU (eU (eU (wRem (eU w 33 0 0)) 38 ((14 * y) + x) 0) 33 1 0) 33 2 (-1)) else (eU (eU (eU (wRem (eU w 33 0 0)) 38 ((14 * y) + x) 1) 33 1 0) 33 2 (-1))))) else (eU (eU (eU w 33 0 0) 33 1 1) 33 2 (-1))
set_option maxRecDepth 20000 in
theorem zX8_set (w : eW) (x y b : Int) (hx : eI x) (hy : eI y) (hb : eI b) (hM : MB w) (hb01 : b = 0 ∨ b = 1) : Cal mX8_set [eR 33, (0, x), (0, y), (0, b)] w (some (0, rX8_set w x y b)) (wX8_set w x y b) := by
  obtain ⟨⟨c1, c2, c3, c4, c5, c6, c7, c8, c9, c10⟩, c11, c12, c13⟩ := id hM
  have hM0 : MB (eU w 33 0 0) := MB_put hM (by omega)
  have ha0 : 0 ≤ (eU w 33 0 0) 33 27 ∧ (eU w 33 0 0) 33 27 ≤ 10 := ⟨c7, c8⟩
  unfold rX8_set wX8_set
  refine Cal.of (by decide +kernel) (Nat.le_of_ble_eq_true rfl) ?_
  show Go _ 0 [(0, eR 33), (1, (0, x)), (2, (0, y)), (3, (0, b))] [] _ _ _
  refine go_aload_n (eD DX8_set 0 rfl) rfl rfl (go_iconst (eD DX8_set 1 rfl) (go_putI (kz := 0) (eD DX8_set 2 rfl) fX8_95 (by decide) rfl rfl (fun q h => by cases h; exact ⟨rfl, rfl⟩) rfl (go_aload_n (eD DX8_set 3 rfl) rfl rfl (go_iload_n (eD DX8_set 4 rfl) rfl rfl (go_iload_n (eD DX8_set 5 rfl) rfl rfl (go_callV (ci := 8) [(0, x), (0, y)] (eD DX8_set 6 rfl) ⟨eMem 6 137 rfl rfl, sX8_isFrame⟩ ⟨Nat.le_of_ble_eq_true rfl, Nat.le_of_ble_eq_true rfl⟩ (by decide) ⟨rfl, by decide, _, rfl, rfl⟩ rfl rfl (Nat.le_of_ble_eq_true rfl) (y_b_X8_isFrame (eU w 33 0 0) x y (by omega) (by omega) (by first | assumption | omega)) (?_)))))))
  by_cases h1 : (w 33 28) = 1 ∧ 0 ≤ x ∧ x ≤ (w 33 24) - 1 ∧ 0 ≤ y ∧ y ≤ (w 33 25) - 1
  · refine go_if_neT (tgt := 20) (eD DX8_set 7 rfl) rfl (eI_pI _) (pI1 h1) ?_
    refine go_aload_n (eD DX8_set 12 rfl) rfl rfl (go_iload_n (eD DX8_set 13 rfl) rfl rfl (go_iload_n (eD DX8_set 14 rfl) rfl rfl (go_callV (ci := 8) [(0, x), (0, y)] (eD DX8_set 15 rfl) ⟨eMem 6 75 rfl rfl, sX8_isInside⟩ ⟨Nat.le_of_ble_eq_true rfl, Nat.le_of_ble_eq_true rfl⟩ (by decide) ⟨rfl, by decide, _, rfl, rfl⟩ rfl rfl (Nat.le_of_ble_eq_true rfl) (y_b_X8_isInside (eU w 33 0 0) x y (by omega) (by omega) (by assumption)) (go_iload_n (eD DX8_set 16 rfl) rfl rfl (?_)))))
    by_cases h2 : (if insM (eU w 33 0 0) x y then 1 else 0) = b
    · refine go_icmp_eqT (tgt := 39) (eD DX8_set 17 rfl) rfl (eI_pI _) (by omega) h2 ?_
      refine go_aload_n (eD DX8_set 23 rfl) rfl rfl (go_iconst (eD DX8_set 24 rfl) (?_))
      refine go_callV (ci := 8) [(0, 5)] (eD DX8_set 25 rfl) ⟨eMem 5 233 rfl rfl, sX8_refused⟩ ⟨Nat.le_of_ble_eq_true rfl, Nat.le_of_ble_eq_true rfl⟩ (by decide) ⟨rfl, by decide, _, rfl, rfl⟩ rfl rfl (Nat.le_of_ble_eq_true rfl) (Cal.as (zX8_refused (eU w 33 0 0) 5  ) (r2 := some (0, (-1))) (w2 := (eU (eU (eU w 33 0 0) 33 1 5) 33 2 (-1))) (by (try simp only [rX8_refused, if_pos h1, if_pos h2]) <;> (try rfl)) (by (try simp only [wX8_refused, if_pos h1, if_pos h2]) <;> (try rfl))) (?_)
      simp only [if_pos h1, if_pos h2]
      exact go_iret (eD DX8_set 26 rfl) rfl
    · refine go_icmp_eqF (tgt := 39) (eD DX8_set 17 rfl) rfl (eI_pI _) (by omega) h2 ?_
      refine go_aload_n (eD DX8_set 18 rfl) rfl rfl (go_iload_n (eD DX8_set 19 rfl) rfl rfl (go_iload_n (eD DX8_set 20 rfl) rfl rfl (go_callV (ci := 8) [(0, x), (0, y)] (eD DX8_set 21 rfl) ⟨eMem 7 38 rfl rfl, sX8_isLast⟩ ⟨Nat.le_of_ble_eq_true rfl, Nat.le_of_ble_eq_true rfl⟩ (by decide) ⟨rfl, by decide, _, rfl, rfl⟩ rfl rfl (Nat.le_of_ble_eq_true rfl) (y_b_X8_isLast (eU w 33 0 0) x y (by omega) (by omega) (by first | assumption | omega)) (?_))))
      by_cases h3 : insM (eU w 33 0 0) x y ∧ sumI ((eU w 33 0 0) 38) 0 140 = 1
      · refine go_if_eqF (tgt := 45) (eD DX8_set 22 rfl) rfl (eI_pI _) (pI1 h3) ?_
        refine go_aload_n (eD DX8_set 23 rfl) rfl rfl (go_iconst (eD DX8_set 24 rfl) (?_))
        refine go_callV (ci := 8) [(0, 5)] (eD DX8_set 25 rfl) ⟨eMem 5 233 rfl rfl, sX8_refused⟩ ⟨Nat.le_of_ble_eq_true rfl, Nat.le_of_ble_eq_true rfl⟩ (by decide) ⟨rfl, by decide, _, rfl, rfl⟩ rfl rfl (Nat.le_of_ble_eq_true rfl) (Cal.as (zX8_refused (eU w 33 0 0) 5  ) (r2 := some (0, (-1))) (w2 := (eU (eU (eU w 33 0 0) 33 1 5) 33 2 (-1))) (by (try simp only [rX8_refused, if_pos h1, if_neg h2, if_pos h3]) <;> (try rfl)) (by (try simp only [wX8_refused, if_pos h1, if_neg h2, if_pos h3]) <;> (try rfl))) (?_)
        simp only [if_pos h1, if_neg h2, if_pos h3]
        exact go_iret (eD DX8_set 26 rfl) rfl
      · refine go_if_eqT (tgt := 45) (eD DX8_set 22 rfl) rfl (eI_pI _) (pI0 h3) ?_
        refine go_aload_n (eD DX8_set 27 rfl) rfl rfl (go_callV (ci := 8) [] (eD DX8_set 28 rfl) ⟨eMem 7 46 rfl rfl, sX8_remembers⟩ ⟨Nat.le_of_ble_eq_true rfl, Nat.le_of_ble_eq_true rfl⟩ (by decide) ⟨rfl, by decide, _, rfl, rfl⟩ rfl rfl (Nat.le_of_ble_eq_true rfl) (y_X8_remembers (eU w 33 0 0) (by first | assumption | omega)) (go_aload_n (eD DX8_set 29 rfl) rfl rfl (go_getR (t := 38) (eD DX8_set 30 rfl) fX8_26 (by decide) rfl ⟨rfl, rfl⟩ (go_bipush (eD DX8_set 31 rfl) (by decide) (go_iload_n (eD DX8_set 32 rfl) rfl rfl (go_imul (eD DX8_set 33 rfl) (go_iload_n (eD DX8_set 34 rfl) rfl rfl (go_iadd (eD DX8_set 35 rfl) (go_iload_n (eD DX8_set 36 rfl) rfl rfl (?_))))))))))
        by_cases h4 : b = 0
        · refine go_if_eqT (tgt := 67) (eD DX8_set 37 rfl) rfl (by omega) h4 ?_
          refine go_iconst (eD DX8_set 40 rfl) (go_iast (n := 144) (eD DX8_set 41 rfl) (by decide) rfl (by omega) (go_aload_n (eD DX8_set 42 rfl) rfl rfl (go_aload_n (eD DX8_set 43 rfl) rfl rfl (go_callV (ci := 8) [] (eD DX8_set 44 rfl) ⟨eMem 6 55 rfl rfl, sX8_many⟩ ⟨Nat.le_of_ble_eq_true rfl, Nat.le_of_ble_eq_true rfl⟩ (by decide) ⟨rfl, by decide, _, rfl, rfl⟩ rfl rfl (Nat.le_of_ble_eq_true rfl) (y_X8_many (eU (wRem (eU w 33 0 0)) 38 ((14 * y) + x) 0)) (?_)))))
          refine go_callV (ci := 8) [(0, sumI ((eU (wRem (eU w 33 0 0)) 38 ((14 * y) + x) 0) 38) 0 140)] (eD DX8_set 45 rfl) ⟨eMem 6 59 rfl rfl, sX8_good⟩ ⟨Nat.le_of_ble_eq_true rfl, Nat.le_of_ble_eq_true rfl⟩ (by decide) ⟨rfl, by decide, _, rfl, rfl⟩ rfl rfl (Nat.le_of_ble_eq_true rfl) (Cal.as (zX8_good (eU (wRem (eU w 33 0 0)) 38 ((14 * y) + x) 0) (sumI ((eU (wRem (eU w 33 0 0)) 38 ((14 * y) + x) 0) 38) 0 140)  ) (r2 := some (0, sumI ((eU (wRem (eU w 33 0 0)) 38 ((14 * y) + x) 0) 38) 0 140)) (w2 := (eU (eU (eU (wRem (eU w 33 0 0)) 38 ((14 * y) + x) 0) 33 1 0) 33 2 (-1))) (by (try simp only [rX8_good, if_pos h1, if_neg h2, if_neg h3, if_pos h4]) <;> (try rfl)) (by (try simp only [wX8_good, if_pos h1, if_neg h2, if_neg h3, if_pos h4]) <;> (try rfl))) (?_)
          simp only [if_pos h1, if_neg h2, if_neg h3, if_pos h4]
          exact go_iret (eD DX8_set 46 rfl) rfl
        · refine go_if_eqF (tgt := 67) (eD DX8_set 37 rfl) rfl (by omega) h4 ?_
          refine go_iconst (eD DX8_set 38 rfl) (go_goto (tgt := 68) (eD DX8_set 39 rfl) rfl (go_iast (n := 144) (eD DX8_set 41 rfl) (by decide) rfl (by omega) (go_aload_n (eD DX8_set 42 rfl) rfl rfl (go_aload_n (eD DX8_set 43 rfl) rfl rfl (go_callV (ci := 8) [] (eD DX8_set 44 rfl) ⟨eMem 6 55 rfl rfl, sX8_many⟩ ⟨Nat.le_of_ble_eq_true rfl, Nat.le_of_ble_eq_true rfl⟩ (by decide) ⟨rfl, by decide, _, rfl, rfl⟩ rfl rfl (Nat.le_of_ble_eq_true rfl) (y_X8_many (eU (wRem (eU w 33 0 0)) 38 ((14 * y) + x) 1)) (?_))))))
          refine go_callV (ci := 8) [(0, sumI ((eU (wRem (eU w 33 0 0)) 38 ((14 * y) + x) 1) 38) 0 140)] (eD DX8_set 45 rfl) ⟨eMem 6 59 rfl rfl, sX8_good⟩ ⟨Nat.le_of_ble_eq_true rfl, Nat.le_of_ble_eq_true rfl⟩ (by decide) ⟨rfl, by decide, _, rfl, rfl⟩ rfl rfl (Nat.le_of_ble_eq_true rfl) (Cal.as (zX8_good (eU (wRem (eU w 33 0 0)) 38 ((14 * y) + x) 1) (sumI ((eU (wRem (eU w 33 0 0)) 38 ((14 * y) + x) 1) 38) 0 140)  ) (r2 := some (0, sumI ((eU (wRem (eU w 33 0 0)) 38 ((14 * y) + x) 1) 38) 0 140)) (w2 := (eU (eU (eU (wRem (eU w 33 0 0)) 38 ((14 * y) + x) 1) 33 1 0) 33 2 (-1))) (by (try simp only [rX8_good, if_pos h1, if_neg h2, if_neg h3, if_neg h4]) <;> (try rfl)) (by (try simp only [wX8_good, if_pos h1, if_neg h2, if_neg h3, if_neg h4]) <;> (try rfl))) (?_)
          simp only [if_pos h1, if_neg h2, if_neg h3, if_neg h4]
          exact go_iret (eD DX8_set 46 rfl) rfl
  · refine go_if_neF (tgt := 20) (eD DX8_set 7 rfl) rfl (eI_pI _) (not_not_intro (pI0 h1)) ?_
    refine go_aload_n (eD DX8_set 8 rfl) rfl rfl (go_iconst (eD DX8_set 9 rfl) (?_))
    refine go_callV (ci := 8) [(0, 1)] (eD DX8_set 10 rfl) ⟨eMem 5 233 rfl rfl, sX8_refused⟩ ⟨Nat.le_of_ble_eq_true rfl, Nat.le_of_ble_eq_true rfl⟩ (by decide) ⟨rfl, by decide, _, rfl, rfl⟩ rfl rfl (Nat.le_of_ble_eq_true rfl) (Cal.as (zX8_refused (eU w 33 0 0) 1  ) (r2 := some (0, (-1))) (w2 := (eU (eU (eU w 33 0 0) 33 1 1) 33 2 (-1))) (by (try simp only [rX8_refused, if_neg h1]) <;> (try rfl)) (by (try simp only [wX8_refused, if_neg h1]) <;> (try rfl))) (?_)
    simp only [if_neg h1]
    exact go_iret (eD DX8_set 11 rfl) rfl
def rX8_runs (w : eW) (side v : Int) : Int := if (w 33 28) = 0 then (-1) else (if 0 ≤ side ∧ side ≤ 3 then (if 1 ≤ v ∧ v ≤ 9 then ((wRem (eU w 33 0 0)) 38 (140 + side)) else (-1)) else (-1))
def wX8_runs (w : eW) (side v : Int) : eW := if (w 33 28) = 0 then (eU (eU (eU w 33 0 0) 33 1 1) 33 2 (-1)) else (if 0 ≤ side ∧ side ≤ 3 then (if 1 ≤ v ∧ v ≤ 9 then (eU (eU (eU (wRem (eU w 33 0 0)) 38 (140 + side) v) 33 1 0) 33 2 (-1)) else (eU (eU (eU w 33 0 0) 33 1 2) 33 2 (-1))) else (eU (eU (eU w 33 0 0) 33 1 1) 33 2 (-1)))
set_option maxRecDepth 20000 in
theorem zX8_runs (w : eW) (side v : Int) (hside : eI side) (hv : eI v) (hM : MB w) : Cal mX8_runs [eR 33, (0, side), (0, v)] w (some (0, rX8_runs w side v)) (wX8_runs w side v) := by
  obtain ⟨⟨c1, c2, c3, c4, c5, c6, c7, c8, c9, c10⟩, c11, c12, c13⟩ := id hM
  have hM0 : MB (eU w 33 0 0) := MB_put hM (by omega)
  have ha0 : 0 ≤ (eU w 33 0 0) 33 27 ∧ (eU w 33 0 0) 33 27 ≤ 10 := ⟨c7, c8⟩
  unfold rX8_runs wX8_runs
  refine Cal.of (by decide +kernel) (Nat.le_of_ble_eq_true rfl) ?_
  show Go _ 0 [(0, eR 33), (1, (0, side)), (2, (0, v))] [] _ _ _
  refine go_aload_n (eD DX8_runs 0 rfl) rfl rfl (go_iconst (eD DX8_runs 1 rfl) (go_putI (kz := 0) (eD DX8_runs 2 rfl) fX8_95 (by decide) rfl rfl (fun q h => by cases h; exact ⟨rfl, rfl⟩) rfl (go_aload_n (eD DX8_runs 3 rfl) rfl rfl (go_getI (kz := 28) (eD DX8_runs 4 rfl) fX8_228 (by decide) rfl rfl rfl (?_)))))
  by_cases h1 : (w 33 28) = 0
  · refine go_if_eqT (tgt := 21) (eD DX8_runs 5 rfl) rfl (show eI (w 33 28) from by omega) h1 ?_
    refine go_aload_n (eD DX8_runs 11 rfl) rfl rfl (go_iconst (eD DX8_runs 12 rfl) (?_))
    refine go_callV (ci := 8) [(0, 1)] (eD DX8_runs 13 rfl) ⟨eMem 5 233 rfl rfl, sX8_refused⟩ ⟨Nat.le_of_ble_eq_true rfl, Nat.le_of_ble_eq_true rfl⟩ (by decide) ⟨rfl, by decide, _, rfl, rfl⟩ rfl rfl (Nat.le_of_ble_eq_true rfl) (Cal.as (zX8_refused (eU w 33 0 0) 1  ) (r2 := some (0, (-1))) (w2 := (eU (eU (eU w 33 0 0) 33 1 1) 33 2 (-1))) (by (try simp only [rX8_refused, if_pos h1]) <;> (try rfl)) (by (try simp only [wX8_refused, if_pos h1]) <;> (try rfl))) (?_)
    simp only [if_pos h1]
    exact go_iret (eD DX8_runs 14 rfl) rfl
  · refine go_if_eqF (tgt := 21) (eD DX8_runs 5 rfl) rfl (show eI (w 33 28) from by omega) h1 ?_
    refine go_iload_n (eD DX8_runs 6 rfl) rfl rfl (go_iconst (eD DX8_runs 7 rfl) (go_iconst (eD DX8_runs 8 rfl) (go_callS [(0, side), (0, 0), (0, 3)] (eD DX8_runs 9 rfl) ⟨eMem 5 230 rfl rfl, sX8_in⟩ ⟨Nat.le_of_ble_eq_true rfl, Nat.le_of_ble_eq_true rfl⟩ rfl rfl (Nat.le_of_ble_eq_true rfl) (y_b_X8_in (eU w 33 0 0) side 0 3 (by omega) (by decide) (by decide) ) (?_))))
    by_cases h2 : 0 ≤ side ∧ side ≤ 3
    · refine go_if_neT (tgt := 27) (eD DX8_runs 10 rfl) rfl (eI_pI _) (pI1 h2) ?_
      refine go_iload_n (eD DX8_runs 15 rfl) rfl rfl (go_iconst (eD DX8_runs 16 rfl) (go_bipush (eD DX8_runs 17 rfl) (by decide) (go_callS [(0, v), (0, 1), (0, 9)] (eD DX8_runs 18 rfl) ⟨eMem 5 230 rfl rfl, sX8_in⟩ ⟨Nat.le_of_ble_eq_true rfl, Nat.le_of_ble_eq_true rfl⟩ rfl rfl (Nat.le_of_ble_eq_true rfl) (y_b_X8_in (eU w 33 0 0) v 1 9 (by omega) (by decide) (by decide) ) (?_))))
      by_cases h3 : 1 ≤ v ∧ v ≤ 9
      · refine go_if_neT (tgt := 43) (eD DX8_runs 19 rfl) rfl (eI_pI _) (pI1 h3) ?_
        refine go_aload_n (eD DX8_runs 24 rfl) rfl rfl (go_callV (ci := 8) [] (eD DX8_runs 25 rfl) ⟨eMem 7 46 rfl rfl, sX8_remembers⟩ ⟨Nat.le_of_ble_eq_true rfl, Nat.le_of_ble_eq_true rfl⟩ (by decide) ⟨rfl, by decide, _, rfl, rfl⟩ rfl rfl (Nat.le_of_ble_eq_true rfl) (y_X8_remembers (eU w 33 0 0) (by first | assumption | omega)) (go_aload_n (eD DX8_runs 26 rfl) rfl rfl (go_iload_n (eD DX8_runs 27 rfl) rfl rfl (?_))))
        refine go_callV (ci := 8) [(0, side)] (eD DX8_runs 28 rfl) ⟨eMem 6 97 rfl rfl, sX8_speedOf⟩ ⟨Nat.le_of_ble_eq_true rfl, Nat.le_of_ble_eq_true rfl⟩ (by decide) ⟨rfl, by decide, _, rfl, rfl⟩ rfl rfl (Nat.le_of_ble_eq_true rfl) (Cal.as (zX8_speedOf (wRem (eU w 33 0 0)) side (by omega) (by omega)) (r2 := some (0, (wRem (eU w 33 0 0)) 38 (140 + side))) (w2 := (wRem (eU w 33 0 0))) (by (try simp only [rX8_speedOf, if_neg h1, if_pos h2, if_pos h3]) <;> (try rfl)) rfl) (?_)
        refine go_istore_n (eD DX8_runs 29 rfl) rfl (by decide) (go_aload_n (eD DX8_runs 30 rfl) rfl rfl (go_getR (t := 38) (eD DX8_runs 31 rfl) fX8_26 (by decide) rfl ⟨rfl, rfl⟩ (go_sipush (eD DX8_runs 32 rfl) (by decide) (go_iload_n (eD DX8_runs 33 rfl) rfl rfl (go_iadd (eD DX8_runs 34 rfl) (go_iload_n (eD DX8_runs 35 rfl) rfl rfl (go_iast (n := 144) (eD DX8_runs 36 rfl) (by decide) rfl (by omega) (go_aload_n (eD DX8_runs 37 rfl) rfl rfl (go_iload_n (eD DX8_runs 38 rfl) rfl rfl (?_))))))))))
        refine go_callV (ci := 8) [(0, (wRem (eU w 33 0 0)) 38 (140 + side))] (eD DX8_runs 39 rfl) ⟨eMem 6 59 rfl rfl, sX8_good⟩ ⟨Nat.le_of_ble_eq_true rfl, Nat.le_of_ble_eq_true rfl⟩ (by decide) ⟨rfl, by decide, _, rfl, rfl⟩ rfl rfl (Nat.le_of_ble_eq_true rfl) (Cal.as (zX8_good (eU (wRem (eU w 33 0 0)) 38 (140 + side) v) ((wRem (eU w 33 0 0)) 38 (140 + side))  ) (r2 := some (0, (wRem (eU w 33 0 0)) 38 (140 + side))) (w2 := (eU (eU (eU (wRem (eU w 33 0 0)) 38 (140 + side) v) 33 1 0) 33 2 (-1))) (by (try simp only [rX8_good, if_neg h1, if_pos h2, if_pos h3]) <;> (try rfl)) (by (try simp only [wX8_good, if_neg h1, if_pos h2, if_pos h3]) <;> (try rfl))) (?_)
        simp only [if_neg h1, if_pos h2, if_pos h3]
        exact go_iret (eD DX8_runs 40 rfl) rfl
      · refine go_if_neF (tgt := 43) (eD DX8_runs 19 rfl) rfl (eI_pI _) (not_not_intro (pI0 h3)) ?_
        refine go_aload_n (eD DX8_runs 20 rfl) rfl rfl (go_iconst (eD DX8_runs 21 rfl) (?_))
        refine go_callV (ci := 8) [(0, 2)] (eD DX8_runs 22 rfl) ⟨eMem 5 233 rfl rfl, sX8_refused⟩ ⟨Nat.le_of_ble_eq_true rfl, Nat.le_of_ble_eq_true rfl⟩ (by decide) ⟨rfl, by decide, _, rfl, rfl⟩ rfl rfl (Nat.le_of_ble_eq_true rfl) (Cal.as (zX8_refused (eU w 33 0 0) 2  ) (r2 := some (0, (-1))) (w2 := (eU (eU (eU w 33 0 0) 33 1 2) 33 2 (-1))) (by (try simp only [rX8_refused, if_neg h1, if_pos h2, if_neg h3]) <;> (try rfl)) (by (try simp only [wX8_refused, if_neg h1, if_pos h2, if_neg h3]) <;> (try rfl))) (?_)
        simp only [if_neg h1, if_pos h2, if_neg h3]
        exact go_iret (eD DX8_runs 23 rfl) rfl
    · refine go_if_neF (tgt := 27) (eD DX8_runs 10 rfl) rfl (eI_pI _) (not_not_intro (pI0 h2)) ?_
      refine go_aload_n (eD DX8_runs 11 rfl) rfl rfl (go_iconst (eD DX8_runs 12 rfl) (?_))
      refine go_callV (ci := 8) [(0, 1)] (eD DX8_runs 13 rfl) ⟨eMem 5 233 rfl rfl, sX8_refused⟩ ⟨Nat.le_of_ble_eq_true rfl, Nat.le_of_ble_eq_true rfl⟩ (by decide) ⟨rfl, by decide, _, rfl, rfl⟩ rfl rfl (Nat.le_of_ble_eq_true rfl) (Cal.as (zX8_refused (eU w 33 0 0) 1  ) (r2 := some (0, (-1))) (w2 := (eU (eU (eU w 33 0 0) 33 1 1) 33 2 (-1))) (by (try simp only [rX8_refused, if_neg h1, if_neg h2]) <;> (try rfl)) (by (try simp only [wX8_refused, if_neg h1, if_neg h2]) <;> (try rfl))) (?_)
      simp only [if_neg h1, if_neg h2]
      exact go_iret (eD DX8_runs 14 rfl) rfl
theorem HB_begin {w : eW} (hB : HB w) : HB (wX7_beginAct w) := HB_fr (Fr_begin w) hB (by decide)
theorem HB_flip {w : eW} (hB : HB w) {x y : Int} (hx : 0 ≤ x ∧ x < w 2 0) (hy : 0 ≤ y ∧ y < w 2 1) : wX0_flip w x y = eU w 3 y (eXor (w 3 y) (1 * 2 ^ x.toNat)) ∧ HB (eU w 3 y (eXor (w 3 y) (1 * 2 ^ x.toNat))) := by
  obtain ⟨⟨b1, b2, b3, b4, b5, b6⟩, b7, b8, b9⟩ := id hB
  have by_ := b7 y hy.1 (by omega)
  have hp := e_pow14 (k := x) (by omega)
  have hq : (2 : Int) ^ x.toNat < 16384 := by
    have h1 : (2 : Nat) ^ x.toNat ≤ 2 ^ 13 := Nat.pow_le_pow_right (by decide) (by omega)
    rw [e_two]
    omega
  have hx2 := eXor_lt (a := w 3 y) (b := 1 * 2 ^ x.toNat) 14 (by decide) (by omega) (by omega)
  refine ⟨?_, HB_rows hB (Fr.put Fr.rf (by decide)) (fun i h1 h2 => ?_)⟩
  · unfold wX0_flip
    rw [if_pos (by omega), if_neg (by omega), if_pos (by omega), if_pos (by omega)]
  · rw [eU_get]
    split
    · omega
    · exact b7 i h1 h2
def rX7_set (w : eW) (x y b : Int) : Int := if 0 ≤ x ∧ x < (w 2 0) ∧ 0 ≤ y ∧ y < (w 2 1) then (if (if insC w x y then 1 else 0) = b then (-1) else (if insC w x y ∧ cnt2 w = 1 then (-1) else (cnt2 (wX0_flip (wX7_beginAct w) x y)))) else (-1)
def wX7_set (w : eW) (x y b : Int) : eW := if 0 ≤ x ∧ x < (w 2 0) ∧ 0 ≤ y ∧ y < (w 2 1) then (if (if insC w x y then 1 else 0) = b then (eU w 0 2 5) else (if insC w x y ∧ cnt2 w = 1 then (eU w 0 2 5) else (eU (wX0_flip (wX7_beginAct w) x y) 0 2 0))) else (eU w 0 2 1)
set_option maxRecDepth 20000 in
theorem zX7_set (w : eW) (x y b : Int) (hx : eI x) (hy : eI y) (hb : eI b) (hB : HB w) (hp : 0 ≤ w 6 1 ∧ w 6 1 ≤ 10) (hb01 : b = 0 ∨ b = 1) : Cal mX7_set [eR 0, (0, x), (0, y), (0, b)] w (some (0, rX7_set w x y b)) (wX7_set w x y b) := by
  obtain ⟨⟨b1, b2, b3, b4, b5, b6⟩, b7, b8, b9⟩ := id hB
  have hB1 := HB_begin hB
  have hB2 : (0 ≤ x ∧ x < w 2 0 ∧ 0 ≤ y ∧ y < w 2 1) → HB (wX0_flip (wX7_beginAct w) x y) := fun q => by rw [(HB_flip hB1 (x := x) (y := y) (by rw [(Fr_begin w) 2 (by decide)]; omega) (by rw [(Fr_begin w) 2 (by decide)]; omega)).1]; exact (HB_flip hB1 (x := x) (y := y) (by rw [(Fr_begin w) 2 (by decide)]; omega) (by rw [(Fr_begin w) 2 (by decide)]; omega)).2
  unfold rX7_set wX7_set
  refine Cal.of (by decide +kernel) (Nat.le_of_ble_eq_true rfl) ?_
  show Go _ 0 [(0, eR 0), (1, (0, x)), (2, (0, y)), (3, (0, b))] [] _ _ _
  refine go_aload_n (eD DX7_set 0 rfl) rfl rfl (go_getR (t := 2) (eD DX7_set 1 rfl) fX7_29 (by decide) rfl ⟨rfl, rfl⟩ (go_iload_n (eD DX7_set 2 rfl) rfl rfl (go_iload_n (eD DX7_set 3 rfl) rfl rfl (go_callV (ci := 0) [(0, x), (0, y)] (eD DX7_set 4 rfl) ⟨eMem 3 90 rfl rfl, sX0_hasCell⟩ ⟨Nat.le_of_ble_eq_true rfl, Nat.le_of_ble_eq_true rfl⟩ (by decide) ⟨rfl, by decide, _, rfl, rfl⟩ rfl rfl (Nat.le_of_ble_eq_true rfl) (y_b_X0_hasCell w x y (by omega) (by omega) (by first | assumption | omega)) (?_)))))
  by_cases h1 : 0 ≤ x ∧ x < (w 2 0) ∧ 0 ≤ y ∧ y < (w 2 1)
  · refine go_if_neT (tgt := 18) (eD DX7_set 5 rfl) rfl (eI_pI _) (pI1 h1) ?_
    refine go_aload_n (eD DX7_set 10 rfl) rfl rfl (go_getR (t := 2) (eD DX7_set 11 rfl) fX7_29 (by decide) rfl ⟨rfl, rfl⟩ (go_iload_n (eD DX7_set 12 rfl) rfl rfl (go_iload_n (eD DX7_set 13 rfl) rfl rfl (go_callV (ci := 0) [(0, x), (0, y)] (eD DX7_set 14 rfl) ⟨eMem 3 91 rfl rfl, sX0_isInside⟩ ⟨Nat.le_of_ble_eq_true rfl, Nat.le_of_ble_eq_true rfl⟩ (by decide) ⟨rfl, by decide, _, rfl, rfl⟩ rfl rfl (Nat.le_of_ble_eq_true rfl) (y_b_X0_isInside w x y (by omega) (by omega) (by assumption)) (go_iload_n (eD DX7_set 15 rfl) rfl rfl (?_))))))
    by_cases h2 : (if insC w x y then 1 else 0) = b
    · refine go_icmp_eqT (tgt := 43) (eD DX7_set 16 rfl) rfl (eI_pI _) (by omega) h2 ?_
      refine go_aload_n (eD DX7_set 23 rfl) rfl rfl (go_iconst (eD DX7_set 24 rfl) (?_))
      refine go_callV (ci := 7) [(0, 5)] (eD DX7_set 25 rfl) ⟨eMem 2 54 rfl rfl, sX7_refuse⟩ ⟨Nat.le_of_ble_eq_true rfl, Nat.le_of_ble_eq_true rfl⟩ (by decide) ⟨rfl, by decide, _, rfl, rfl⟩ rfl rfl (Nat.le_of_ble_eq_true rfl) (Cal.as (zX7_refuse w 5  ) (r2 := some (0, (-1))) (w2 := (eU w 0 2 5)) (by (try simp only [rX7_refuse, if_pos h1, if_pos h2]) <;> (try rfl)) (by (try simp only [wX7_refuse, if_pos h1, if_pos h2]) <;> (try rfl))) (?_)
      simp only [if_pos h1, if_pos h2]
      exact go_iret (eD DX7_set 26 rfl) rfl
    · refine go_icmp_eqF (tgt := 43) (eD DX7_set 16 rfl) rfl (eI_pI _) (by omega) h2 ?_
      refine go_aload_n (eD DX7_set 17 rfl) rfl rfl (go_getR (t := 2) (eD DX7_set 18 rfl) fX7_29 (by decide) rfl ⟨rfl, rfl⟩ (go_iload_n (eD DX7_set 19 rfl) rfl rfl (go_iload_n (eD DX7_set 20 rfl) rfl rfl (go_callV (ci := 0) [(0, x), (0, y)] (eD DX7_set 21 rfl) ⟨eMem 4 130 rfl rfl, sX0_isLastInside⟩ ⟨Nat.le_of_ble_eq_true rfl, Nat.le_of_ble_eq_true rfl⟩ (by decide) ⟨rfl, by decide, _, rfl, rfl⟩ rfl rfl (Nat.le_of_ble_eq_true rfl) (y_b_X0_isLastInside w x y (by omega) (by omega) (by first | assumption | omega)) (?_)))))
      by_cases h3 : insC w x y ∧ cnt2 w = 1
      · refine go_if_eqF (tgt := 49) (eD DX7_set 22 rfl) rfl (eI_pI _) (pI1 h3) ?_
        refine go_aload_n (eD DX7_set 23 rfl) rfl rfl (go_iconst (eD DX7_set 24 rfl) (?_))
        refine go_callV (ci := 7) [(0, 5)] (eD DX7_set 25 rfl) ⟨eMem 2 54 rfl rfl, sX7_refuse⟩ ⟨Nat.le_of_ble_eq_true rfl, Nat.le_of_ble_eq_true rfl⟩ (by decide) ⟨rfl, by decide, _, rfl, rfl⟩ rfl rfl (Nat.le_of_ble_eq_true rfl) (Cal.as (zX7_refuse w 5  ) (r2 := some (0, (-1))) (w2 := (eU w 0 2 5)) (by (try simp only [rX7_refuse, if_pos h1, if_neg h2, if_pos h3]) <;> (try rfl)) (by (try simp only [wX7_refuse, if_pos h1, if_neg h2, if_pos h3]) <;> (try rfl))) (?_)
        simp only [if_pos h1, if_neg h2, if_pos h3]
        exact go_iret (eD DX7_set 26 rfl) rfl
      · refine go_if_eqT (tgt := 49) (eD DX7_set 22 rfl) rfl (eI_pI _) (pI0 h3) ?_
        refine go_aload_n (eD DX7_set 27 rfl) rfl rfl (go_callV (ci := 7) [] (eD DX7_set 28 rfl) ⟨eMem 4 145 rfl rfl, sX7_beginAct⟩ ⟨Nat.le_of_ble_eq_true rfl, Nat.le_of_ble_eq_true rfl⟩ (by decide) ⟨rfl, by decide, _, rfl, rfl⟩ rfl rfl (Nat.le_of_ble_eq_true rfl) (zX7_beginAct w  (by first | assumption | omega)) (go_aload_n (eD DX7_set 29 rfl) rfl rfl (go_getR (t := 2) (eD DX7_set 30 rfl) fX7_29 (by decide) rfl ⟨rfl, rfl⟩ (go_iload_n (eD DX7_set 31 rfl) rfl rfl (go_iload_n (eD DX7_set 32 rfl) rfl rfl (go_callV (ci := 0) [(0, x), (0, y)] (eD DX7_set 33 rfl) ⟨eMem 4 136 rfl rfl, sX0_flip⟩ ⟨Nat.le_of_ble_eq_true rfl, Nat.le_of_ble_eq_true rfl⟩ (by decide) ⟨rfl, by decide, _, rfl, rfl⟩ rfl rfl (Nat.le_of_ble_eq_true rfl) (zX0_flip (wX7_beginAct w) x y (by omega) (by omega) (by first | assumption | omega)) (go_aload_n (eD DX7_set 34 rfl) rfl rfl (go_aload_n (eD DX7_set 35 rfl) rfl rfl (go_getR (t := 2) (eD DX7_set 36 rfl) fX7_29 (by decide) rfl ⟨rfl, rfl⟩ (go_callV (ci := 0) [] (eD DX7_set 37 rfl) ⟨eMem 2 215 rfl rfl, sX0_countInside⟩ ⟨Nat.le_of_ble_eq_true rfl, Nat.le_of_ble_eq_true rfl⟩ (by decide) ⟨rfl, by decide, _, rfl, rfl⟩ rfl rfl (Nat.le_of_ble_eq_true rfl) (y_X0_countInside (wX0_flip (wX7_beginAct w) x y) (by first | assumption | (apply hB2; assumption))) (?_)))))))))))
        refine go_callV (ci := 7) [(0, cnt2 (wX0_flip (wX7_beginAct w) x y))] (eD DX7_set 38 rfl) ⟨eMem 2 216 rfl rfl, sX7_answer⟩ ⟨Nat.le_of_ble_eq_true rfl, Nat.le_of_ble_eq_true rfl⟩ (by decide) ⟨rfl, by decide, _, rfl, rfl⟩ rfl rfl (Nat.le_of_ble_eq_true rfl) (Cal.as (zX7_answer (wX0_flip (wX7_beginAct w) x y) (cnt2 (wX0_flip (wX7_beginAct w) x y))  ) (r2 := some (0, cnt2 (wX0_flip (wX7_beginAct w) x y))) (w2 := (eU (wX0_flip (wX7_beginAct w) x y) 0 2 0)) (by (try simp only [rX7_answer, if_pos h1, if_neg h2, if_neg h3]) <;> (try rfl)) (by (try simp only [wX7_answer, if_pos h1, if_neg h2, if_neg h3]) <;> (try rfl))) (?_)
        simp only [if_pos h1, if_neg h2, if_neg h3]
        exact go_iret (eD DX7_set 39 rfl) rfl
  · refine go_if_neF (tgt := 18) (eD DX7_set 5 rfl) rfl (eI_pI _) (not_not_intro (pI0 h1)) ?_
    refine go_aload_n (eD DX7_set 6 rfl) rfl rfl (go_iconst (eD DX7_set 7 rfl) (?_))
    refine go_callV (ci := 7) [(0, 1)] (eD DX7_set 8 rfl) ⟨eMem 2 54 rfl rfl, sX7_refuse⟩ ⟨Nat.le_of_ble_eq_true rfl, Nat.le_of_ble_eq_true rfl⟩ (by decide) ⟨rfl, by decide, _, rfl, rfl⟩ rfl rfl (Nat.le_of_ble_eq_true rfl) (Cal.as (zX7_refuse w 1  ) (r2 := some (0, (-1))) (w2 := (eU w 0 2 1)) (by (try simp only [rX7_refuse, if_neg h1]) <;> (try rfl)) (by (try simp only [wX7_refuse, if_neg h1]) <;> (try rfl))) (?_)
    simp only [if_neg h1]
    exact go_iret (eD DX7_set 9 rfl) rfl
def rX7_runs (w : eW) (side v : Int) : Int := if 0 < (w 2 0) ∧ 0 < (w 2 1) then (if 0 ≤ side ∧ side < 4 then (if v < 1 then (-1) else (if 9 < v then (-1) else (if side < 0 then 1 else (if side < 4 then ((wX7_beginAct w) 4 side) else 1)))) else (-1)) else (-1)
def wX7_runs (w : eW) (side v : Int) : eW := if 0 < (w 2 0) ∧ 0 < (w 2 1) then (if 0 ≤ side ∧ side < 4 then (if v < 1 then (eU w 0 2 2) else (if 9 < v then (eU w 0 2 2) else (if side < 0 then (eU (wX7_beginAct w) 0 2 0) else (if side < 4 then (eU (eU (wX7_beginAct w) 4 side v) 0 2 0) else (eU (wX7_beginAct w) 0 2 0))))) else (eU w 0 2 1)) else (eU w 0 2 1)
set_option maxRecDepth 20000 in
theorem zX7_runs (w : eW) (side v : Int) (hside : eI side) (hv : eI v) (hB : HB w) (hp : 0 ≤ w 6 1 ∧ w 6 1 ≤ 10) : Cal mX7_runs [eR 0, (0, side), (0, v)] w (some (0, rX7_runs w side v)) (wX7_runs w side v) := by
  obtain ⟨⟨b1, b2, b3, b4, b5, b6⟩, b7, b8, b9⟩ := id hB
  unfold rX7_runs wX7_runs
  refine Cal.of (by decide +kernel) (Nat.le_of_ble_eq_true rfl) ?_
  show Go _ 0 [(0, eR 0), (1, (0, side)), (2, (0, v))] [] _ _ _
  refine go_aload_n (eD DX7_runs 0 rfl) rfl rfl (go_getR (t := 2) (eD DX7_runs 1 rfl) fX7_29 (by decide) rfl ⟨rfl, rfl⟩ (go_callV (ci := 0) [] (eD DX7_runs 2 rfl) ⟨eMem 2 232 rfl rfl, sX0_stands⟩ ⟨Nat.le_of_ble_eq_true rfl, Nat.le_of_ble_eq_true rfl⟩ (by decide) ⟨rfl, by decide, _, rfl, rfl⟩ rfl rfl (Nat.le_of_ble_eq_true rfl) (y_b_X0_stands w  (by first | assumption | omega)) (?_)))
  by_cases h1 : 0 < (w 2 0) ∧ 0 < (w 2 1)
  · refine go_if_eqF (tgt := 17) (eD DX7_runs 3 rfl) rfl (eI_pI _) (pI1 h1) ?_
    refine go_iload_n (eD DX7_runs 4 rfl) rfl rfl (go_callS [(0, side)] (eD DX7_runs 5 rfl) ⟨eMem 3 96 rfl rfl, sX7_isSide⟩ ⟨Nat.le_of_ble_eq_true rfl, Nat.le_of_ble_eq_true rfl⟩ rfl rfl (Nat.le_of_ble_eq_true rfl) (y_b_X7_isSide w side (by omega) ) (?_))
    by_cases h2 : 0 ≤ side ∧ side < 4
    · refine go_if_neT (tgt := 23) (eD DX7_runs 6 rfl) rfl (eI_pI _) (pI1 h2) ?_
      refine go_iload_n (eD DX7_runs 11 rfl) rfl rfl (go_iconst (eD DX7_runs 12 rfl) (?_))
      by_cases h3 : v < 1
      · refine go_icmp_ltT (tgt := 34) (eD DX7_runs 13 rfl) rfl (by omega) (by decide) h3 ?_
        refine go_aload_n (eD DX7_runs 17 rfl) rfl rfl (go_iconst (eD DX7_runs 18 rfl) (?_))
        refine go_callV (ci := 7) [(0, 2)] (eD DX7_runs 19 rfl) ⟨eMem 2 54 rfl rfl, sX7_refuse⟩ ⟨Nat.le_of_ble_eq_true rfl, Nat.le_of_ble_eq_true rfl⟩ (by decide) ⟨rfl, by decide, _, rfl, rfl⟩ rfl rfl (Nat.le_of_ble_eq_true rfl) (Cal.as (zX7_refuse w 2  ) (r2 := some (0, (-1))) (w2 := (eU w 0 2 2)) (by (try simp only [rX7_refuse, if_pos h1, if_pos h2, if_pos h3]) <;> (try rfl)) (by (try simp only [wX7_refuse, if_pos h1, if_pos h2, if_pos h3]) <;> (try rfl))) (?_)
        simp only [if_pos h1, if_pos h2, if_pos h3]
        exact go_iret (eD DX7_runs 20 rfl) rfl
      · refine go_icmp_ltF (tgt := 34) (eD DX7_runs 13 rfl) rfl (by omega) (by decide) h3 ?_
        refine go_iload_n (eD DX7_runs 14 rfl) rfl rfl (go_bipush (eD DX7_runs 15 rfl) (by decide) (?_))
        by_cases h4 : 9 < v
        · refine go_icmp_leF (tgt := 40) (eD DX7_runs 16 rfl) rfl (by omega) (by decide) (Int.not_le.mpr h4) ?_
          refine go_aload_n (eD DX7_runs 17 rfl) rfl rfl (go_iconst (eD DX7_runs 18 rfl) (?_))
          refine go_callV (ci := 7) [(0, 2)] (eD DX7_runs 19 rfl) ⟨eMem 2 54 rfl rfl, sX7_refuse⟩ ⟨Nat.le_of_ble_eq_true rfl, Nat.le_of_ble_eq_true rfl⟩ (by decide) ⟨rfl, by decide, _, rfl, rfl⟩ rfl rfl (Nat.le_of_ble_eq_true rfl) (Cal.as (zX7_refuse w 2  ) (r2 := some (0, (-1))) (w2 := (eU w 0 2 2)) (by (try simp only [rX7_refuse, if_pos h1, if_pos h2, if_neg h3, if_pos h4]) <;> (try rfl)) (by (try simp only [wX7_refuse, if_pos h1, if_pos h2, if_neg h3, if_pos h4]) <;> (try rfl))) (?_)
          simp only [if_pos h1, if_pos h2, if_neg h3, if_pos h4]
          exact go_iret (eD DX7_runs 20 rfl) rfl
        · refine go_icmp_leT (tgt := 40) (eD DX7_runs 16 rfl) rfl (by omega) (by decide) (Int.not_lt.mp h4) ?_
          refine go_aload_n (eD DX7_runs 21 rfl) rfl rfl (go_callV (ci := 7) [] (eD DX7_runs 22 rfl) ⟨eMem 4 145 rfl rfl, sX7_beginAct⟩ ⟨Nat.le_of_ble_eq_true rfl, Nat.le_of_ble_eq_true rfl⟩ (by decide) ⟨rfl, by decide, _, rfl, rfl⟩ rfl rfl (Nat.le_of_ble_eq_true rfl) (zX7_beginAct w  (by first | assumption | omega)) (go_aload_n (eD DX7_runs 23 rfl) rfl rfl (go_getR (t := 2) (eD DX7_runs 24 rfl) fX7_29 (by decide) rfl ⟨rfl, rfl⟩ (go_iload_n (eD DX7_runs 25 rfl) rfl rfl (?_)))))
          by_cases h5 : side < 0
          · refine go_callV (ci := 0) [(0, side)] (eD DX7_runs 26 rfl) ⟨eMem 3 99 rfl rfl, sX0_pace⟩ ⟨Nat.le_of_ble_eq_true rfl, Nat.le_of_ble_eq_true rfl⟩ (by decide) ⟨rfl, by decide, _, rfl, rfl⟩ rfl rfl (Nat.le_of_ble_eq_true rfl) (Cal.as (zX0_pace (wX7_beginAct w) side (by omega) ) (r2 := some (0, 1)) (w2 := (wX7_beginAct w)) (by (try simp only [rX0_pace, if_pos h1, if_pos h2, if_neg h3, if_neg h4, if_pos h5]) <;> (try rfl)) rfl) (?_)
            refine go_istore_n (eD DX7_runs 27 rfl) rfl (by decide) (go_aload_n (eD DX7_runs 28 rfl) rfl rfl (go_getR (t := 2) (eD DX7_runs 29 rfl) fX7_29 (by decide) rfl ⟨rfl, rfl⟩ (go_iload_n (eD DX7_runs 30 rfl) rfl rfl (go_iload_n (eD DX7_runs 31 rfl) rfl rfl (?_)))))
            refine go_callV (ci := 0) [(0, side), (0, v)] (eD DX7_runs 32 rfl) ⟨eMem 4 158 rfl rfl, sX0_setPace⟩ ⟨Nat.le_of_ble_eq_true rfl, Nat.le_of_ble_eq_true rfl⟩ (by decide) ⟨rfl, by decide, _, rfl, rfl⟩ rfl rfl (Nat.le_of_ble_eq_true rfl) (Cal.as (zX0_setPace (wX7_beginAct w) side v (by omega) ) (r2 := none) (w2 := (wX7_beginAct w)) rfl (by (try simp only [wX0_setPace, if_pos h1, if_pos h2, if_neg h3, if_neg h4, if_pos h5]) <;> (try rfl))) (?_)
            refine go_aload_n (eD DX7_runs 33 rfl) rfl rfl (go_iload_n (eD DX7_runs 34 rfl) rfl rfl (?_))
            refine go_callV (ci := 7) [(0, 1)] (eD DX7_runs 35 rfl) ⟨eMem 2 216 rfl rfl, sX7_answer⟩ ⟨Nat.le_of_ble_eq_true rfl, Nat.le_of_ble_eq_true rfl⟩ (by decide) ⟨rfl, by decide, _, rfl, rfl⟩ rfl rfl (Nat.le_of_ble_eq_true rfl) (Cal.as (zX7_answer (wX7_beginAct w) 1  ) (r2 := some (0, 1)) (w2 := (eU (wX7_beginAct w) 0 2 0)) (by (try simp only [rX7_answer, if_pos h1, if_pos h2, if_neg h3, if_neg h4, if_pos h5]) <;> (try rfl)) (by (try simp only [wX7_answer, if_pos h1, if_pos h2, if_neg h3, if_neg h4, if_pos h5]) <;> (try rfl))) (?_)
            simp only [if_pos h1, if_pos h2, if_neg h3, if_neg h4, if_pos h5]
            exact go_iret (eD DX7_runs 36 rfl) rfl
          · by_cases h6 : side < 4
            · refine go_callV (ci := 0) [(0, side)] (eD DX7_runs 26 rfl) ⟨eMem 3 99 rfl rfl, sX0_pace⟩ ⟨Nat.le_of_ble_eq_true rfl, Nat.le_of_ble_eq_true rfl⟩ (by decide) ⟨rfl, by decide, _, rfl, rfl⟩ rfl rfl (Nat.le_of_ble_eq_true rfl) (Cal.as (zX0_pace (wX7_beginAct w) side (by omega) ) (r2 := some (0, (wX7_beginAct w) 4 side)) (w2 := (wX7_beginAct w)) (by (try simp only [rX0_pace, if_pos h1, if_pos h2, if_neg h3, if_neg h4, if_neg h5, if_pos h6]) <;> (try rfl)) rfl) (?_)
              refine go_istore_n (eD DX7_runs 27 rfl) rfl (by decide) (go_aload_n (eD DX7_runs 28 rfl) rfl rfl (go_getR (t := 2) (eD DX7_runs 29 rfl) fX7_29 (by decide) rfl ⟨rfl, rfl⟩ (go_iload_n (eD DX7_runs 30 rfl) rfl rfl (go_iload_n (eD DX7_runs 31 rfl) rfl rfl (?_)))))
              refine go_callV (ci := 0) [(0, side), (0, v)] (eD DX7_runs 32 rfl) ⟨eMem 4 158 rfl rfl, sX0_setPace⟩ ⟨Nat.le_of_ble_eq_true rfl, Nat.le_of_ble_eq_true rfl⟩ (by decide) ⟨rfl, by decide, _, rfl, rfl⟩ rfl rfl (Nat.le_of_ble_eq_true rfl) (Cal.as (zX0_setPace (wX7_beginAct w) side v (by omega) ) (r2 := none) (w2 := (eU (wX7_beginAct w) 4 side v)) rfl (by (try simp only [wX0_setPace, if_pos h1, if_pos h2, if_neg h3, if_neg h4, if_neg h5, if_pos h6]) <;> (try rfl))) (?_)
              refine go_aload_n (eD DX7_runs 33 rfl) rfl rfl (go_iload_n (eD DX7_runs 34 rfl) rfl rfl (?_))
              refine go_callV (ci := 7) [(0, (wX7_beginAct w) 4 side)] (eD DX7_runs 35 rfl) ⟨eMem 2 216 rfl rfl, sX7_answer⟩ ⟨Nat.le_of_ble_eq_true rfl, Nat.le_of_ble_eq_true rfl⟩ (by decide) ⟨rfl, by decide, _, rfl, rfl⟩ rfl rfl (Nat.le_of_ble_eq_true rfl) (Cal.as (zX7_answer (eU (wX7_beginAct w) 4 side v) ((wX7_beginAct w) 4 side)  ) (r2 := some (0, (wX7_beginAct w) 4 side)) (w2 := (eU (eU (wX7_beginAct w) 4 side v) 0 2 0)) (by (try simp only [rX7_answer, if_pos h1, if_pos h2, if_neg h3, if_neg h4, if_neg h5, if_pos h6]) <;> (try rfl)) (by (try simp only [wX7_answer, if_pos h1, if_pos h2, if_neg h3, if_neg h4, if_neg h5, if_pos h6]) <;> (try rfl))) (?_)
              simp only [if_pos h1, if_pos h2, if_neg h3, if_neg h4, if_neg h5, if_pos h6]
              exact go_iret (eD DX7_runs 36 rfl) rfl
            · refine go_callV (ci := 0) [(0, side)] (eD DX7_runs 26 rfl) ⟨eMem 3 99 rfl rfl, sX0_pace⟩ ⟨Nat.le_of_ble_eq_true rfl, Nat.le_of_ble_eq_true rfl⟩ (by decide) ⟨rfl, by decide, _, rfl, rfl⟩ rfl rfl (Nat.le_of_ble_eq_true rfl) (Cal.as (zX0_pace (wX7_beginAct w) side (by omega) ) (r2 := some (0, 1)) (w2 := (wX7_beginAct w)) (by (try simp only [rX0_pace, if_pos h1, if_pos h2, if_neg h3, if_neg h4, if_neg h5, if_neg h6]) <;> (try rfl)) rfl) (?_)
              refine go_istore_n (eD DX7_runs 27 rfl) rfl (by decide) (go_aload_n (eD DX7_runs 28 rfl) rfl rfl (go_getR (t := 2) (eD DX7_runs 29 rfl) fX7_29 (by decide) rfl ⟨rfl, rfl⟩ (go_iload_n (eD DX7_runs 30 rfl) rfl rfl (go_iload_n (eD DX7_runs 31 rfl) rfl rfl (?_)))))
              refine go_callV (ci := 0) [(0, side), (0, v)] (eD DX7_runs 32 rfl) ⟨eMem 4 158 rfl rfl, sX0_setPace⟩ ⟨Nat.le_of_ble_eq_true rfl, Nat.le_of_ble_eq_true rfl⟩ (by decide) ⟨rfl, by decide, _, rfl, rfl⟩ rfl rfl (Nat.le_of_ble_eq_true rfl) (Cal.as (zX0_setPace (wX7_beginAct w) side v (by omega) ) (r2 := none) (w2 := (wX7_beginAct w)) rfl (by (try simp only [wX0_setPace, if_pos h1, if_pos h2, if_neg h3, if_neg h4, if_neg h5, if_neg h6]) <;> (try rfl))) (?_)
              refine go_aload_n (eD DX7_runs 33 rfl) rfl rfl (go_iload_n (eD DX7_runs 34 rfl) rfl rfl (?_))
              refine go_callV (ci := 7) [(0, 1)] (eD DX7_runs 35 rfl) ⟨eMem 2 216 rfl rfl, sX7_answer⟩ ⟨Nat.le_of_ble_eq_true rfl, Nat.le_of_ble_eq_true rfl⟩ (by decide) ⟨rfl, by decide, _, rfl, rfl⟩ rfl rfl (Nat.le_of_ble_eq_true rfl) (Cal.as (zX7_answer (wX7_beginAct w) 1  ) (r2 := some (0, 1)) (w2 := (eU (wX7_beginAct w) 0 2 0)) (by (try simp only [rX7_answer, if_pos h1, if_pos h2, if_neg h3, if_neg h4, if_neg h5, if_neg h6]) <;> (try rfl)) (by (try simp only [wX7_answer, if_pos h1, if_pos h2, if_neg h3, if_neg h4, if_neg h5, if_neg h6]) <;> (try rfl))) (?_)
              simp only [if_pos h1, if_pos h2, if_neg h3, if_neg h4, if_neg h5, if_neg h6]
              exact go_iret (eD DX7_runs 36 rfl) rfl
    · refine go_if_neF (tgt := 23) (eD DX7_runs 6 rfl) rfl (eI_pI _) (not_not_intro (pI0 h2)) ?_
      refine go_aload_n (eD DX7_runs 7 rfl) rfl rfl (go_iconst (eD DX7_runs 8 rfl) (?_))
      refine go_callV (ci := 7) [(0, 1)] (eD DX7_runs 9 rfl) ⟨eMem 2 54 rfl rfl, sX7_refuse⟩ ⟨Nat.le_of_ble_eq_true rfl, Nat.le_of_ble_eq_true rfl⟩ (by decide) ⟨rfl, by decide, _, rfl, rfl⟩ rfl rfl (Nat.le_of_ble_eq_true rfl) (Cal.as (zX7_refuse w 1  ) (r2 := some (0, (-1))) (w2 := (eU w 0 2 1)) (by (try simp only [rX7_refuse, if_pos h1, if_neg h2]) <;> (try rfl)) (by (try simp only [wX7_refuse, if_pos h1, if_neg h2]) <;> (try rfl))) (?_)
      simp only [if_pos h1, if_neg h2]
      exact go_iret (eD DX7_runs 10 rfl) rfl
  · refine go_if_eqT (tgt := 17) (eD DX7_runs 3 rfl) rfl (eI_pI _) (pI0 h1) ?_
    refine go_aload_n (eD DX7_runs 7 rfl) rfl rfl (go_iconst (eD DX7_runs 8 rfl) (?_))
    refine go_callV (ci := 7) [(0, 1)] (eD DX7_runs 9 rfl) ⟨eMem 2 54 rfl rfl, sX7_refuse⟩ ⟨Nat.le_of_ble_eq_true rfl, Nat.le_of_ble_eq_true rfl⟩ (by decide) ⟨rfl, by decide, _, rfl, rfl⟩ rfl rfl (Nat.le_of_ble_eq_true rfl) (Cal.as (zX7_refuse w 1  ) (r2 := some (0, (-1))) (w2 := (eU w 0 2 1)) (by (try simp only [rX7_refuse, if_neg h1]) <;> (try rfl)) (by (try simp only [wX7_refuse, if_neg h1]) <;> (try rfl))) (?_)
    simp only [if_neg h1]
    exact go_iret (eD DX7_runs 10 rfl) rfl
set_option maxRecDepth 20000 in
theorem tX8_undo_0 {r : Option eV} {w9 : eW} (w : eW) (hM : MB w) (k1 : (w 33 28) = 0 → r = some (0, (-1)) ∧ w9 = (eU (eU (eU w 33 0 0) 33 1 1) 33 2 (-1))) (k2 : ¬ ((w 33 28) = 0) → (w 33 27) = 0 → r = some (0, (-1)) ∧ w9 = (eU (eU (eU w 33 0 0) 33 1 5) 33 2 (-1))) (k3 : ¬ ((w 33 28) = 0) → ¬ ((w 33 27) = 0) → Go mX8_undo 43 [(0, eR 33), (1, (0, 0))] [] (eU (eU w 33 0 0) 33 27 ((w 33 27) - 1)) r w9) : Go mX8_undo 0 [(0, eR 33)] [] w r w9 := by
  obtain ⟨⟨c1, c2, c3, c4, c5, c6, c7, c8, c9, c10⟩, c11, c12, c13⟩ := id hM
  refine go_aload_n (eD DX8_undo 0 rfl) rfl rfl (go_iconst (eD DX8_undo 1 rfl) (go_putI (kz := 0) (eD DX8_undo 2 rfl) fX8_95 (by decide) rfl rfl (fun q h => by cases h; exact ⟨rfl, rfl⟩) rfl (go_aload_n (eD DX8_undo 3 rfl) rfl rfl (go_getI (kz := 28) (eD DX8_undo 4 rfl) fX8_228 (by decide) rfl rfl rfl (?_)))))
  by_cases h1 : (w 33 28) = 0
  · refine go_if_neF (tgt := 18) (eD DX8_undo 5 rfl) rfl (show eI (w 33 28) from by omega) (not_not_intro h1) ?_
    refine go_aload_n (eD DX8_undo 6 rfl) rfl rfl (go_iconst (eD DX8_undo 7 rfl) (?_))
    refine go_callV (ci := 8) [(0, 1)] (eD DX8_undo 8 rfl) ⟨eMem 5 233 rfl rfl, sX8_refused⟩ ⟨Nat.le_of_ble_eq_true rfl, Nat.le_of_ble_eq_true rfl⟩ (by decide) ⟨rfl, by decide, _, rfl, rfl⟩ rfl rfl (Nat.le_of_ble_eq_true rfl) (Cal.as (zX8_refused (eU w 33 0 0) 1  ) (r2 := some (0, (-1))) (w2 := (eU (eU (eU w 33 0 0) 33 1 1) 33 2 (-1))) (by (try simp only [rX8_refused, if_pos h1]) <;> (try rfl)) (by (try simp only [wX8_refused, if_pos h1]) <;> (try rfl))) (?_)
    rw [(k1 h1).1, (k1 h1).2]
    exact go_iret (eD DX8_undo 9 rfl) rfl
  · refine go_if_neT (tgt := 18) (eD DX8_undo 5 rfl) rfl (show eI (w 33 28) from by omega) h1 ?_
    refine go_aload_n (eD DX8_undo 10 rfl) rfl rfl (go_getI (kz := 27) (eD DX8_undo 11 rfl) fX8_225 (by decide) rfl rfl rfl (?_))
    by_cases h2 : (w 33 27) = 0
    · refine go_if_neF (tgt := 31) (eD DX8_undo 12 rfl) rfl (show eI (w 33 27) from by omega) (not_not_intro h2) ?_
      refine go_aload_n (eD DX8_undo 13 rfl) rfl rfl (go_iconst (eD DX8_undo 14 rfl) (?_))
      refine go_callV (ci := 8) [(0, 5)] (eD DX8_undo 15 rfl) ⟨eMem 5 233 rfl rfl, sX8_refused⟩ ⟨Nat.le_of_ble_eq_true rfl, Nat.le_of_ble_eq_true rfl⟩ (by decide) ⟨rfl, by decide, _, rfl, rfl⟩ rfl rfl (Nat.le_of_ble_eq_true rfl) (Cal.as (zX8_refused (eU w 33 0 0) 5  ) (r2 := some (0, (-1))) (w2 := (eU (eU (eU w 33 0 0) 33 1 5) 33 2 (-1))) (by (try simp only [rX8_refused, if_neg h1, if_pos h2]) <;> (try rfl)) (by (try simp only [wX8_refused, if_neg h1, if_pos h2]) <;> (try rfl))) (?_)
      rw [(k2 h1 h2).1, (k2 h1 h2).2]
      exact go_iret (eD DX8_undo 16 rfl) rfl
    · refine go_if_neT (tgt := 31) (eD DX8_undo 12 rfl) rfl (show eI (w 33 27) from by omega) h2 ?_
      exact go_aload_n (eD DX8_undo 17 rfl) rfl rfl (go_dup (eD DX8_undo 18 rfl) (by decide) (go_getI (kz := 27) (eD DX8_undo 19 rfl) fX8_225 (by decide) rfl rfl rfl (go_iconst (eD DX8_undo 20 rfl) (go_isub (eD DX8_undo 21 rfl) (go_putI (kz := 27) (eD DX8_undo 22 rfl) fX8_225 (by decide) rfl rfl (fun q h => by cases h; exact ⟨rfl, rfl⟩) rfl (go_iconst (eD DX8_undo 23 rfl) (go_istore_n (eD DX8_undo 24 rfl) rfl (by decide) (Go.pick [1, 0] rfl (k3 h1 h2)))))))))
set_option maxRecDepth 20000 in
theorem tX8_undo_43 {r : Option eV} {w9 : eW} (w : eW) (k : Int) (ha : 0 ≤ w 33 27 ∧ w 33 27 ≤ 9) (hk : 0 ≤ k ∧ k ≤ 144) (k1 : k < 144 → Go mX8_undo 43 [(0, eR 33), (1, (0, k + 1))] [] (eU w 38 k (w 39 (((w 33 27) * 144) + k))) r w9) (k2 : ¬ (k < 144) → r = some (0, w 33 27) ∧ w9 = (eU (eU w 33 1 0) 33 2 (-1))) : Go mX8_undo 43 [(0, eR 33), (1, (0, k))] [] w r w9 := by
  refine go_iload_n (eD DX8_undo 25 rfl) rfl rfl (go_sipush (eD DX8_undo 26 rfl) (by decide) (?_))
  by_cases h1 : k < 144
  · refine go_icmp_geF (tgt := 77) (eD DX8_undo 27 rfl) rfl (by omega) (by decide) (Int.not_le.mpr h1) ?_
    exact go_aload_n (eD DX8_undo 28 rfl) rfl rfl (go_getR (t := 38) (eD DX8_undo 29 rfl) fX8_26 (by decide) rfl ⟨rfl, rfl⟩ (go_iload_n (eD DX8_undo 30 rfl) rfl rfl (go_aload_n (eD DX8_undo 31 rfl) rfl rfl (go_getR (t := 39) (eD DX8_undo 32 rfl) fX8_29 (by decide) rfl ⟨rfl, rfl⟩ (go_aload_n (eD DX8_undo 33 rfl) rfl rfl (go_getI (kz := 27) (eD DX8_undo 34 rfl) fX8_225 (by decide) rfl rfl rfl (go_sipush (eD DX8_undo 35 rfl) (by decide) (go_imul (eD DX8_undo 36 rfl) (go_iload_n (eD DX8_undo 37 rfl) rfl rfl (go_iadd (eD DX8_undo 38 rfl) (go_iald (n := 1440) (eD DX8_undo 39 rfl) (by decide) rfl (show 0 ≤ (((w 33 27) * 144) + k) ∧ (((w 33 27) * 144) + k) < 1440 from by omega) (go_iast (n := 144) (eD DX8_undo 40 rfl) (by decide) rfl (by omega) (go_iinc (eD DX8_undo 41 rfl) rfl (by decide) (go_goto (tgt := 43) (eD DX8_undo 42 rfl) rfl (Go.pick [1, 0] rfl (k1 h1))))))))))))))))
  · refine go_icmp_geT (tgt := 77) (eD DX8_undo 27 rfl) rfl (by omega) (by decide) (Int.not_lt.mp h1) ?_
    refine go_aload_n (eD DX8_undo 43 rfl) rfl rfl (go_aload_n (eD DX8_undo 44 rfl) rfl rfl (go_getI (kz := 27) (eD DX8_undo 45 rfl) fX8_225 (by decide) rfl rfl rfl (?_)))
    refine go_callV (ci := 8) [(0, w 33 27)] (eD DX8_undo 46 rfl) ⟨eMem 6 59 rfl rfl, sX8_good⟩ ⟨Nat.le_of_ble_eq_true rfl, Nat.le_of_ble_eq_true rfl⟩ (by decide) ⟨rfl, by decide, _, rfl, rfl⟩ rfl rfl (Nat.le_of_ble_eq_true rfl) (Cal.as (zX8_good w (w 33 27)  ) (r2 := some (0, w 33 27)) (w2 := (eU (eU w 33 1 0) 33 2 (-1))) (by (try simp only [rX8_good, if_neg h1]) <;> (try rfl)) (by (try simp only [wX8_good, if_neg h1]) <;> (try rfl))) (?_)
    rw [(k2 h1).1, (k2 h1).2]
    exact go_iret (eD DX8_undo 47 rfl) rfl
