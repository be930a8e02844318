theorem MB_put {w : eW} {i v : Int} (hM : MB w) (hi : ¬ (24 ≤ i ∧ i ≤ 28)) : MB (eU w 33 i v) := by
  obtain ⟨c, c11, c12, c13⟩ := hM
  unfold MB
  rw [eU_ne (show (38 : Nat) ≠ 33 by decide), eU_ne (show (40 : Nat) ≠ 33 by decide)]
  simp only [eU_get]
  rw [if_neg (by omega), if_neg (by omega), if_neg (by omega), if_neg (by omega), if_neg (by omega)]
  exact ⟨c, c11, c12, c13⟩
def rX8_isLast (w : eW) (x y : Int) : Int := if insM w x y then (if (sumI (w 38) 0 140) = 1 then 1 else 0) else 0
set_option maxRecDepth 20000 in
theorem zX8_isLast (w : eW) (x y : Int) (hx : eI x) (hy : eI y) (hM : MB w) : Cal mX8_isLast [eR 33, (0, x), (0, y)] w (some (0, rX8_isLast w x y)) w := by
  obtain ⟨⟨c1, c2, c3, c4, c5, c6, c7, c8, c9, c10⟩, c11, c12, c13⟩ := id hM
  have hs := sumI_bound (f := w 38) (a := 0) (b := 140) (lo := 0) (hi := 1) (by omega) (fun i g1 g2 => c11 i g1 g2)
  unfold rX8_isLast
  refine Cal.of (by decide +kernel) (Nat.le_of_ble_eq_true rfl) ?_
  show Go _ 0 [(0, eR 33), (1, (0, x)), (2, (0, y))] [] _ _ _
  refine go_aload_n (eD DX8_isLast 0 rfl) rfl rfl (go_iload_n (eD DX8_isLast 1 rfl) rfl rfl (go_iload_n (eD DX8_isLast 2 rfl) rfl rfl (go_callV (ci := 8) [(0, x), (0, y)] (eD DX8_isLast 3 rfl) ⟨eMem 6 75 rfl rfl, sX8_isInside⟩ ⟨Nat.le_of_ble_eq_true rfl, Nat.le_of_ble_eq_true rfl⟩ (by decide) ⟨rfl, by decide, _, rfl, rfl⟩ rfl rfl (Nat.le_of_ble_eq_true rfl) (y_b_X8_isInside w x y (by omega) (by omega) (by assumption)) (?_))))
  by_cases h1 : insM w x y
  · refine go_if_eqF (tgt := 21) (eD DX8_isLast 4 rfl) rfl (eI_pI _) (pI1 h1) ?_
    refine go_aload_n (eD DX8_isLast 5 rfl) rfl rfl (go_callV (ci := 8) [] (eD DX8_isLast 6 rfl) ⟨eMem 6 55 rfl rfl, sX8_many⟩ ⟨Nat.le_of_ble_eq_true rfl, Nat.le_of_ble_eq_true rfl⟩ (by decide) ⟨rfl, by decide, _, rfl, rfl⟩ rfl rfl (Nat.le_of_ble_eq_true rfl) (y_X8_many w) (go_iconst (eD DX8_isLast 7 rfl) (?_)))
    by_cases h2 : (sumI (w 38) 0 140) = 1
    · refine go_icmp_neF (tgt := 21) (eD DX8_isLast 8 rfl) rfl (show eI (sumI (w 38) 0 140) from by omega) (by decide) (not_not_intro h2) ?_
      simp only [if_pos h1, if_pos h2]
      exact go_iconst (eD DX8_isLast 9 rfl) (go_goto (tgt := 22) (eD DX8_isLast 10 rfl) rfl (go_zret (eD DX8_isLast 12 rfl) rfl (by decide)))
    · refine go_icmp_neT (tgt := 21) (eD DX8_isLast 8 rfl) rfl (show eI (sumI (w 38) 0 140) from by omega) (by decide) h2 ?_
      simp only [if_pos h1, if_neg h2]
      exact go_iconst (eD DX8_isLast 11 rfl) (go_zret (eD DX8_isLast 12 rfl) rfl (by decide))
  · refine go_if_eqT (tgt := 21) (eD DX8_isLast 4 rfl) rfl (eI_pI _) (pI0 h1) ?_
    simp only [if_neg h1]
    exact go_iconst (eD DX8_isLast 11 rfl) (go_zret (eD DX8_isLast 12 rfl) rfl (by decide))
theorem y_b_X8_isLast (w : eW) (x y : Int) (hx : eI x) (hy : eI y) (hM : MB w) : Cal mX8_isLast [eR 33, (0, x), (0, y)] w (some (0, if insM w x y ∧ sumI (w 38) 0 140 = 1 then 1 else 0)) w := by
  obtain ⟨⟨c1, c2, c3, c4, c5, c6, c7, c8, c9, c10⟩, c11, c12, c13⟩ := id hM
  have hs := sumI_bound (f := w 38) (a := 0) (b := 140) (lo := 0) (hi := 1) (by omega) (fun i g1 g2 => c11 i g1 g2)
  refine Cal.as (zX8_isLast w x y hx hy hM) ?_ rfl
  unfold rX8_isLast
  congr 2
  (repeat' split) <;> omega
def rX8_cell (w : eW) (x y : Int) : Int := if (w 33 28) = 1 ∧ 0 ≤ x ∧ x ≤ (w 33 24) - 1 ∧ 0 ≤ y ∧ y ≤ (w 33 25) - 1 then (w 38 ((14 * y) + x)) else (-1)
def wX8_cell (w : eW) (x y : Int) : eW := if (w 33 28) = 1 ∧ 0 ≤ x ∧ x ≤ (w 33 24) - 1 ∧ 0 ≤ y ∧ y ≤ (w 33 25) - 1 then (eU (eU (eU w 33 0 0) 33 1 0) 33 2 (-1)) else (eU (eU (eU w 33 0 0) 33 1 1) 33 2 (-1))
set_option maxRecDepth 20000 in
theorem zX8_cell (w : eW) (x y : Int) (hx : eI x) (hy : eI y) (hM : MB w) : Cal mX8_cell [eR 33, (0, x), (0, y)] w (some (0, rX8_cell w x y)) (wX8_cell w x y) := by
  obtain ⟨⟨c1, c2, c3, c4, c5, c6, c7, c8, c9, c10⟩, c11, c12, c13⟩ := id hM
  have hM0 : MB (eU w 33 0 0) := MB_put hM (by omega)
  have hs := sumI_bound (f := w 38) (a := 0) (b := 140) (lo := 0) (hi := 1) (by omega) (fun i g1 g2 => c11 i g1 g2)
  have c14 := c11 (14 * y + x)
  unfold rX8_cell wX8_cell
  refine Cal.of (by decide +kernel) (Nat.le_of_ble_eq_true rfl) ?_
  show Go _ 0 [(0, eR 33), (1, (0, x)), (2, (0, y))] [] _ _ _
  refine go_aload_n (eD DX8_cell 0 rfl) rfl rfl (go_iconst (eD DX8_cell 1 rfl) (go_putI (kz := 0) (eD DX8_cell 2 rfl) fX8_95 (by decide) rfl rfl (fun q h => by cases h; exact ⟨rfl, rfl⟩) rfl (go_aload_n (eD DX8_cell 3 rfl) rfl rfl (go_iload_n (eD DX8_cell 4 rfl) rfl rfl (go_iload_n (eD DX8_cell 5 rfl) rfl rfl (go_callV (ci := 8) [(0, x), (0, y)] (eD DX8_cell 6 rfl) ⟨eMem 6 137 rfl rfl, sX8_isFrame⟩ ⟨Nat.le_of_ble_eq_true rfl, Nat.le_of_ble_eq_true rfl⟩ (by decide) ⟨rfl, by decide, _, rfl, rfl⟩ rfl rfl (Nat.le_of_ble_eq_true rfl) (y_b_X8_isFrame (eU w 33 0 0) x y (by omega) (by omega) (by first | assumption | omega)) (?_)))))))
  by_cases h1 : (w 33 28) = 1 ∧ 0 ≤ x ∧ x ≤ (w 33 24) - 1 ∧ 0 ≤ y ∧ y ≤ (w 33 25) - 1
  · refine go_if_eqF (tgt := 32) (eD DX8_cell 7 rfl) rfl (eI_pI _) (pI1 h1) ?_
    refine go_aload_n (eD DX8_cell 8 rfl) rfl rfl (go_aload_n (eD DX8_cell 9 rfl) rfl rfl (go_getR (t := 38) (eD DX8_cell 10 rfl) fX8_26 (by decide) rfl ⟨rfl, rfl⟩ (go_bipush (eD DX8_cell 11 rfl) (by decide) (go_iload_n (eD DX8_cell 12 rfl) rfl rfl (go_imul (eD DX8_cell 13 rfl) (go_iload_n (eD DX8_cell 14 rfl) rfl rfl (go_iadd (eD DX8_cell 15 rfl) (go_iald (n := 144) (eD DX8_cell 16 rfl) (by decide) rfl (by omega) (?_)))))))))
    refine go_callV (ci := 8) [(0, w 38 ((14 * y) + x))] (eD DX8_cell 17 rfl) ⟨eMem 6 59 rfl rfl, sX8_good⟩ ⟨Nat.le_of_ble_eq_true rfl, Nat.le_of_ble_eq_true rfl⟩ (by decide) ⟨rfl, by decide, _, rfl, rfl⟩ rfl rfl (Nat.le_of_ble_eq_true rfl) (Cal.as (zX8_good (eU w 33 0 0) (w 38 ((14 * y) + x))  ) (r2 := some (0, w 38 ((14 * y) + x))) (w2 := (eU (eU (eU w 33 0 0) 33 1 0) 33 2 (-1))) (by (try simp only [rX8_good, if_pos h1]) <;> (try rfl)) (by (try simp only [wX8_good, if_pos h1]) <;> (try rfl))) (?_)
    simp only [if_pos h1]
    exact go_goto (tgt := 37) (eD DX8_cell 18 rfl) rfl (go_iret (eD DX8_cell 22 rfl) rfl)
  · refine go_if_eqT (tgt := 32) (eD DX8_cell 7 rfl) rfl (eI_pI _) (pI0 h1) ?_
    refine go_aload_n (eD DX8_cell 19 rfl) rfl rfl (go_iconst (eD DX8_cell 20 rfl) (?_))
    refine go_callV (ci := 8) [(0, 1)] (eD DX8_cell 21 rfl) ⟨eMem 5 233 rfl rfl, sX8_refused⟩ ⟨Nat.le_of_ble_eq_true rfl, Nat.le_of_ble_eq_true rfl⟩ (by decide) ⟨rfl, by decide, _, rfl, rfl⟩ rfl rfl (Nat.le_of_ble_eq_true rfl) (Cal.as (zX8_refused (eU w 33 0 0) 1  ) (r2 := some (0, (-1))) (w2 := (eU (eU (eU w 33 0 0) 33 1 1) 33 2 (-1))) (by (try simp only [rX8_refused, if_neg h1]) <;> (try rfl)) (by (try simp only [wX8_refused, if_neg h1]) <;> (try rfl))) (?_)
    simp only [if_neg h1]
    exact go_iret (eD DX8_cell 22 rfl) rfl
def rX8_speed (w : eW) (side : Int) : Int := if (w 33 28) = 0 then (-1) else (if 0 ≤ side ∧ side ≤ 3 then (w 38 (140 + side)) else (-1))
def wX8_speed (w : eW) (side : Int) : eW := if (w 33 28) = 0 then (eU (eU (eU w 33 0 0) 33 1 1) 33 2 (-1)) else (if 0 ≤ side ∧ side ≤ 3 then (eU (eU (eU w 33 0 0) 33 1 0) 33 2 (-1)) else (eU (eU (eU w 33 0 0) 33 1 1) 33 2 (-1)))
set_option maxRecDepth 20000 in
theorem zX8_speed (w : eW) (side : Int) (hside : eI side) (hM : MB w) : Cal mX8_speed [eR 33, (0, side)] w (some (0, rX8_speed w side)) (wX8_speed w side) := by
  obtain ⟨⟨c1, c2, c3, c4, c5, c6, c7, c8, c9, c10⟩, c11, c12, c13⟩ := id hM
  have hM0 : MB (eU w 33 0 0) := MB_put hM (by omega)
  have hs := sumI_bound (f := w 38) (a := 0) (b := 140) (lo := 0) (hi := 1) (by omega) (fun i g1 g2 => c11 i g1 g2)
  have c14 := c12 (140 + side)
  unfold rX8_speed wX8_speed
  refine Cal.of (by decide +kernel) (Nat.le_of_ble_eq_true rfl) ?_
  show Go _ 0 [(0, eR 33), (1, (0, side))] [] _ _ _
  refine go_aload_n (eD DX8_speed 0 rfl) rfl rfl (go_iconst (eD DX8_speed 1 rfl) (go_putI (kz := 0) (eD DX8_speed 2 rfl) fX8_95 (by decide) rfl rfl (fun q h => by cases h; exact ⟨rfl, rfl⟩) rfl (go_aload_n (eD DX8_speed 3 rfl) rfl rfl (go_getI (kz := 28) (eD DX8_speed 4 rfl) fX8_228 (by decide) rfl rfl rfl (?_)))))
  by_cases h1 : (w 33 28) = 0
  · refine go_if_eqT (tgt := 33) (eD DX8_speed 5 rfl) rfl (show eI (w 33 28) from by omega) h1 ?_
    refine go_aload_n (eD DX8_speed 17 rfl) rfl rfl (go_iconst (eD DX8_speed 18 rfl) (?_))
    refine go_callV (ci := 8) [(0, 1)] (eD DX8_speed 19 rfl) ⟨eMem 5 233 rfl rfl, sX8_refused⟩ ⟨Nat.le_of_ble_eq_true rfl, Nat.le_of_ble_eq_true rfl⟩ (by decide) ⟨rfl, by decide, _, rfl, rfl⟩ rfl rfl (Nat.le_of_ble_eq_true rfl) (Cal.as (zX8_refused (eU w 33 0 0) 1  ) (r2 := some (0, (-1))) (w2 := (eU (eU (eU w 33 0 0) 33 1 1) 33 2 (-1))) (by (try simp only [rX8_refused, if_pos h1]) <;> (try rfl)) (by (try simp only [wX8_refused, if_pos h1]) <;> (try rfl))) (?_)
    simp only [if_pos h1]
    exact go_iret (eD DX8_speed 20 rfl) rfl
  · refine go_if_eqF (tgt := 33) (eD DX8_speed 5 rfl) rfl (show eI (w 33 28) from by omega) h1 ?_
    refine go_iload_n (eD DX8_speed 6 rfl) rfl rfl (go_iconst (eD DX8_speed 7 rfl) (go_iconst (eD DX8_speed 8 rfl) (go_callS [(0, side), (0, 0), (0, 3)] (eD DX8_speed 9 rfl) ⟨eMem 5 230 rfl rfl, sX8_in⟩ ⟨Nat.le_of_ble_eq_true rfl, Nat.le_of_ble_eq_true rfl⟩ rfl rfl (Nat.le_of_ble_eq_true rfl) (y_b_X8_in (eU w 33 0 0) side 0 3 (by omega) (by decide) (by decide) ) (?_))))
    by_cases h2 : 0 ≤ side ∧ side ≤ 3
    · refine go_if_eqF (tgt := 33) (eD DX8_speed 10 rfl) rfl (eI_pI _) (pI1 h2) ?_
      refine go_aload_n (eD DX8_speed 11 rfl) rfl rfl (go_aload_n (eD DX8_speed 12 rfl) rfl rfl (go_iload_n (eD DX8_speed 13 rfl) rfl rfl (?_)))
      refine go_callV (ci := 8) [(0, side)] (eD DX8_speed 14 rfl) ⟨eMem 6 97 rfl rfl, sX8_speedOf⟩ ⟨Nat.le_of_ble_eq_true rfl, Nat.le_of_ble_eq_true rfl⟩ (by decide) ⟨rfl, by decide, _, rfl, rfl⟩ rfl rfl (Nat.le_of_ble_eq_true rfl) (Cal.as (zX8_speedOf (eU w 33 0 0) side (by omega) (by omega)) (r2 := some (0, w 38 (140 + side))) (w2 := (eU w 33 0 0)) (by (try simp only [rX8_speedOf, if_neg h1, if_pos h2]) <;> (try rfl)) rfl) (?_)
      refine go_callV (ci := 8) [(0, w 38 (140 + side))] (eD DX8_speed 15 rfl) ⟨eMem 6 59 rfl rfl, sX8_good⟩ ⟨Nat.le_of_ble_eq_true rfl, Nat.le_of_ble_eq_true rfl⟩ (by decide) ⟨rfl, by decide, _, rfl, rfl⟩ rfl rfl (Nat.le_of_ble_eq_true rfl) (Cal.as (zX8_good (eU w 33 0 0) (w 38 (140 + side))  ) (r2 := some (0, w 38 (140 + side))) (w2 := (eU (eU (eU w 33 0 0) 33 1 0) 33 2 (-1))) (by (try simp only [rX8_good, if_neg h1, if_pos h2]) <;> (try rfl)) (by (try simp only [wX8_good, if_neg h1, if_pos h2]) <;> (try rfl))) (?_)
      simp only [if_neg h1, if_pos h2]
      exact go_goto (tgt := 38) (eD DX8_speed 16 rfl) rfl (go_iret (eD DX8_speed 20 rfl) rfl)
    · refine go_if_eqT (tgt := 33) (eD DX8_speed 10 rfl) rfl (eI_pI _) (pI0 h2) ?_
      refine go_aload_n (eD DX8_speed 17 rfl) rfl rfl (go_iconst (eD DX8_speed 18 rfl) (?_))
      refine go_callV (ci := 8) [(0, 1)] (eD DX8_speed 19 rfl) ⟨eMem 5 233 rfl rfl, sX8_refused⟩ ⟨Nat.le_of_ble_eq_true rfl, Nat.le_of_ble_eq_true rfl⟩ (by decide) ⟨rfl, by decide, _, rfl, rfl⟩ rfl rfl (Nat.le_of_ble_eq_true rfl) (Cal.as (zX8_refused (eU w 33 0 0) 1  ) (r2 := some (0, (-1))) (w2 := (eU (eU (eU w 33 0 0) 33 1 1) 33 2 (-1))) (by (try simp only [rX8_refused, if_neg h1, if_neg h2]) <;> (try rfl)) (by (try simp only [wX8_refused, if_neg h1, if_neg h2]) <;> (try rfl))) (?_)
      simp only [if_neg h1, if_neg h2]
      exact go_iret (eD DX8_speed 20 rfl) rfl
def rX8_mark (w : eW) (i what : Int) : Int := if (w 33 28) = 0 then (-1) else (if 0 ≤ i ∧ i ≤ ((w 33 26) - 1) then (if 0 ≤ what ∧ what ≤ 1 then (w 40 ((2 * i) + what)) else (-1)) else (-1))
def wX8_mark (w : eW) (i what : Int) : eW := if (w 33 28) = 0 then (eU (eU (eU w 33 0 0) 33 1 1) 33 2 (-1)) else (if 0 ≤ i ∧ i ≤ ((w 33 26) - 1) then (if 0 ≤ what ∧ what ≤ 1 then (eU (eU (eU w 33 0 0) 33 1 0) 33 2 (-1)) else (eU (eU (eU w 33 0 0) 33 1 1) 33 2 (-1))) else (eU (eU (eU w 33 0 0) 33 1 1) 33 2 (-1)))
set_option maxRecDepth 20000 in
theorem zX8_mark (w : eW) (i what : Int) (hi : eI i) (hwhat : eI what) (hM : MB w) : Cal mX8_mark [eR 33, (0, i), (0, what)] w (some (0, rX8_mark w i what)) (wX8_mark w i what) := by
  obtain ⟨⟨c1, c2, c3, c4, c5, c6, c7, c8, c9, c10⟩, c11, c12, c13⟩ := id hM
  have hM0 : MB (eU w 33 0 0) := MB_put hM (by omega)
  have hs := sumI_bound (f := w 38) (a := 0) (b := 140) (lo := 0) (hi := 1) (by omega) (fun i g1 g2 => c11 i g1 g2)
  have c14 := c13 (2 * i + what)
  unfold rX8_mark wX8_mark
  refine Cal.of (by decide +kernel) (Nat.le_of_ble_eq_true rfl) ?_
  show Go _ 0 [(0, eR 33), (1, (0, i)), (2, (0, what))] [] _ _ _
  refine go_aload_n (eD DX8_mark 0 rfl) rfl rfl (go_iconst (eD DX8_mark 1 rfl) (go_putI (kz := 0) (eD DX8_mark 2 rfl) fX8_95 (by decide) rfl rfl (fun q h => by cases h; exact ⟨rfl, rfl⟩) rfl (go_aload_n (eD DX8_mark 3 rfl) rfl rfl (go_getI (kz := 28) (eD DX8_mark 4 rfl) fX8_228 (by decide) rfl rfl rfl (?_)))))
  by_cases h1 : (w 33 28) = 0
  · refine go_if_eqT (tgt := 52) (eD DX8_mark 5 rfl) rfl (show eI (w 33 28) from by omega) h1 ?_
    refine go_aload_n (eD DX8_mark 30 rfl) rfl rfl (go_iconst (eD DX8_mark 31 rfl) (?_))
    refine go_callV (ci := 8) [(0, 1)] (eD DX8_mark 32 rfl) ⟨eMem 5 233 rfl rfl, sX8_refused⟩ ⟨Nat.le_of_ble_eq_true rfl, Nat.le_of_ble_eq_true rfl⟩ (by decide) ⟨rfl, by decide, _, rfl, rfl⟩ rfl rfl (Nat.le_of_ble_eq_true rfl) (Cal.as (zX8_refused (eU w 33 0 0) 1  ) (r2 := some (0, (-1))) (w2 := (eU (eU (eU w 33 0 0) 33 1 1) 33 2 (-1))) (by (try simp only [rX8_refused, if_pos h1]) <;> (try rfl)) (by (try simp only [wX8_refused, if_pos h1]) <;> (try rfl))) (?_)
    simp only [if_pos h1]
    exact go_iret (eD DX8_mark 33 rfl) rfl
  · refine go_if_eqF (tgt := 52) (eD DX8_mark 5 rfl) rfl (show eI (w 33 28) from by omega) h1 ?_
    refine go_iload_n (eD DX8_mark 6 rfl) rfl rfl (go_iconst (eD DX8_mark 7 rfl) (go_aload_n (eD DX8_mark 8 rfl) rfl rfl (go_getI (kz := 26) (eD DX8_mark 9 rfl) fX8_222 (by decide) rfl rfl rfl (go_iconst (eD DX8_mark 10 rfl) (go_isub (eD DX8_mark 11 rfl) (go_callS [(0, i), (0, 0), (0, (w 33 26) - 1)] (eD DX8_mark 12 rfl) ⟨eMem 5 230 rfl rfl, sX8_in⟩ ⟨Nat.le_of_ble_eq_true rfl, Nat.le_of_ble_eq_true rfl⟩ rfl rfl (Nat.le_of_ble_eq_true rfl) (y_b_X8_in (eU w 33 0 0) i 0 ((w 33 26) - 1) (by omega) (by decide) (show eI ((w 33 26) - 1) from by omega) ) (?_)))))))
    by_cases h2 : 0 ≤ i ∧ i ≤ ((w 33 26) - 1)
    · refine go_if_eqF (tgt := 52) (eD DX8_mark 13 rfl) rfl (eI_pI _) (pI1 h2) ?_
      refine go_iload_n (eD DX8_mark 14 rfl) rfl rfl (go_iconst (eD DX8_mark 15 rfl) (go_iconst (eD DX8_mark 16 rfl) (go_callS [(0, what), (0, 0), (0, 1)] (eD DX8_mark 17 rfl) ⟨eMem 5 230 rfl rfl, sX8_in⟩ ⟨Nat.le_of_ble_eq_true rfl, Nat.le_of_ble_eq_true rfl⟩ rfl rfl (Nat.le_of_ble_eq_true rfl) (y_b_X8_in (eU w 33 0 0) what 0 1 (by omega) (by decide) (by decide) ) (?_))))
      by_cases h3 : 0 ≤ what ∧ what ≤ 1
      · refine go_if_eqF (tgt := 52) (eD DX8_mark 18 rfl) rfl (eI_pI _) (pI1 h3) ?_
        refine go_aload_n (eD DX8_mark 19 rfl) rfl rfl (go_aload_n (eD DX8_mark 20 rfl) rfl rfl (go_getR (t := 40) (eD DX8_mark 21 rfl) fX8_32 (by decide) rfl ⟨rfl, rfl⟩ (go_iconst (eD DX8_mark 22 rfl) (go_iload_n (eD DX8_mark 23 rfl) rfl rfl (go_imul (eD DX8_mark 24 rfl) (go_iload_n (eD DX8_mark 25 rfl) rfl rfl (go_iadd (eD DX8_mark 26 rfl) (go_iald (n := 16) (eD DX8_mark 27 rfl) (by decide) rfl (by omega) (?_)))))))))
        refine go_callV (ci := 8) [(0, w 40 ((2 * i) + what))] (eD DX8_mark 28 rfl) ⟨eMem 6 59 rfl rfl, sX8_good⟩ ⟨Nat.le_of_ble_eq_true rfl, Nat.le_of_ble_eq_true rfl⟩ (by decide) ⟨rfl, by decide, _, rfl, rfl⟩ rfl rfl (Nat.le_of_ble_eq_true rfl) (Cal.as (zX8_good (eU w 33 0 0) (w 40 ((2 * i) + what))  ) (r2 := some (0, w 40 ((2 * i) + what))) (w2 := (eU (eU (eU w 33 0 0) 33 1 0) 33 2 (-1))) (by (try simp only [rX8_good, if_neg h1, if_pos h2, if_pos h3]) <;> (try rfl)) (by (try simp only [wX8_good, if_neg h1, if_pos h2, if_pos h3]) <;> (try rfl))) (?_)
        simp only [if_neg h1, if_pos h2, if_pos h3]
        exact go_goto (tgt := 57) (eD DX8_mark 29 rfl) rfl (go_iret (eD DX8_mark 33 rfl) rfl)
      · refine go_if_eqT (tgt := 52) (eD DX8_mark 18 rfl) rfl (eI_pI _) (pI0 h3) ?_
        refine go_aload_n (eD DX8_mark 30 rfl) rfl rfl (go_iconst (eD DX8_mark 31 rfl) (?_))
        refine go_callV (ci := 8) [(0, 1)] (eD DX8_mark 32 rfl) ⟨eMem 5 233 rfl rfl, sX8_refused⟩ ⟨Nat.le_of_ble_eq_true rfl, Nat.le_of_ble_eq_true rfl⟩ (by decide) ⟨rfl, by decide, _, rfl, rfl⟩ rfl rfl (Nat.le_of_ble_eq_true rfl) (Cal.as (zX8_refused (eU w 33 0 0) 1  ) (r2 := some (0, (-1))) (w2 := (eU (eU (eU w 33 0 0) 33 1 1) 33 2 (-1))) (by (try simp only [rX8_refused, if_neg h1, if_pos h2, if_neg h3]) <;> (try rfl)) (by (try simp only [wX8_refused, if_neg h1, if_pos h2, if_neg h3]) <;> (try rfl))) (?_)
        simp only [if_neg h1, if_pos h2, if_neg h3]
        exact go_iret (eD DX8_mark 33 rfl) rfl
    · refine go_if_eqT (tgt := 52) (eD DX8_mark 13 rfl) rfl (eI_pI _) (pI0 h2) ?_
      refine go_aload_n (eD DX8_mark 30 rfl) rfl rfl (go_iconst (eD DX8_mark 31 rfl) (?_))
      refine go_callV (ci := 8) [(0, 1)] (eD DX8_mark 32 rfl) ⟨eMem 5 233 rfl rfl, sX8_refused⟩ ⟨Nat.le_of_ble_eq_true rfl, Nat.le_of_ble_eq_true rfl⟩ (by decide) ⟨rfl, by decide, _, rfl, rfl⟩ rfl rfl (Nat.le_of_ble_eq_true rfl) (Cal.as (zX8_refused (eU w 33 0 0) 1  ) (r2 := some (0, (-1))) (w2 := (eU (eU (eU w 33 0 0) 33 1 1) 33 2 (-1))) (by (try simp only [rX8_refused, if_neg h1, if_neg h2]) <;> (try rfl)) (by (try simp only [wX8_refused, if_neg h1, if_neg h2]) <;> (try rfl))) (?_)
      simp only [if_neg h1, if_neg h2]
      exact go_iret (eD DX8_mark 33 rfl) rfl
def rX7_cell (w : eW) (x y : Int) : Int := if 0 ≤ x ∧ x < (w 2 0) ∧ 0 ≤ y ∧ y < (w 2 1) then (if insC w x y then 1 else 0) else (-1)
def wX7_cell (w : eW) (x y : Int) : eW := if 0 ≤ x ∧ x < (w 2 0) ∧ 0 ≤ y ∧ y < (w 2 1) then (eU w 0 2 0) else (eU w 0 2 1)
set_option maxRecDepth 20000 in
theorem zX7_cell (w : eW) (x y : Int) (hx : eI x) (hy : eI y) (hB : HB w) : Cal mX7_cell [eR 0, (0, x), (0, y)] w (some (0, rX7_cell w x y)) (wX7_cell w x y) := by
  obtain ⟨⟨b1, b2, b3, b4, b5, b6⟩, b7, b8, b9⟩ := id hB
  unfold rX7_cell wX7_cell
  refine Cal.of (by decide +kernel) (Nat.le_of_ble_eq_true rfl) ?_
  show Go _ 0 [(0, eR 0), (1, (0, x)), (2, (0, y))] [] _ _ _
  refine go_aload_n (eD DX7_cell 0 rfl) rfl rfl (go_getR (t := 2) (eD DX7_cell 1 rfl) fX7_29 (by decide) rfl ⟨rfl, rfl⟩ (go_iload_n (eD DX7_cell 2 rfl) rfl rfl (go_iload_n (eD DX7_cell 3 rfl) rfl rfl (go_callV (ci := 0) [(0, x), (0, y)] (eD DX7_cell 4 rfl) ⟨eMem 3 90 rfl rfl, sX0_hasCell⟩ ⟨Nat.le_of_ble_eq_true rfl, Nat.le_of_ble_eq_true rfl⟩ (by decide) ⟨rfl, by decide, _, rfl, rfl⟩ rfl rfl (Nat.le_of_ble_eq_true rfl) (y_b_X0_hasCell w x y (by omega) (by omega) (by first | assumption | omega)) (?_)))))
  by_cases h1 : 0 ≤ x ∧ x < (w 2 0) ∧ 0 ≤ y ∧ y < (w 2 1)
  · refine go_if_neT (tgt := 18) (eD DX7_cell 5 rfl) rfl (eI_pI _) (pI1 h1) ?_
    refine go_aload_n (eD DX7_cell 10 rfl) rfl rfl (go_aload_n (eD DX7_cell 11 rfl) rfl rfl (go_getR (t := 2) (eD DX7_cell 12 rfl) fX7_29 (by decide) rfl ⟨rfl, rfl⟩ (go_iload_n (eD DX7_cell 13 rfl) rfl rfl (go_iload_n (eD DX7_cell 14 rfl) rfl rfl (go_callV (ci := 0) [(0, x), (0, y)] (eD DX7_cell 15 rfl) ⟨eMem 3 91 rfl rfl, sX0_isInside⟩ ⟨Nat.le_of_ble_eq_true rfl, Nat.le_of_ble_eq_true rfl⟩ (by decide) ⟨rfl, by decide, _, rfl, rfl⟩ rfl rfl (Nat.le_of_ble_eq_true rfl) (y_b_X0_isInside w x y (by omega) (by omega) (by assumption)) (?_))))))
    by_cases h2 : insC w x y
    · refine go_if_eqF (tgt := 35) (eD DX7_cell 16 rfl) rfl (eI_pI _) (pI1 h2) ?_
      refine go_iconst (eD DX7_cell 17 rfl) (go_goto (tgt := 36) (eD DX7_cell 18 rfl) rfl (?_))
      refine go_callV (ci := 7) [(0, 1)] (eD DX7_cell 20 rfl) ⟨eMem 2 216 rfl rfl, sX7_answer⟩ ⟨Nat.le_of_ble_eq_true rfl, Nat.le_of_ble_eq_true rfl⟩ (by decide) ⟨rfl, by decide, _, rfl, rfl⟩ rfl rfl (Nat.le_of_ble_eq_true rfl) (Cal.as (zX7_answer w 1  ) (r2 := some (0, 1)) (w2 := (eU w 0 2 0)) (by (try simp only [rX7_answer, if_pos h1, if_pos h2]) <;> (try rfl)) (by (try simp only [wX7_answer, if_pos h1, if_pos h2]) <;> (try rfl))) (?_)
      simp only [if_pos h1, if_pos h2]
      exact go_iret (eD DX7_cell 21 rfl) rfl
    · refine go_if_eqT (tgt := 35) (eD DX7_cell 16 rfl) rfl (eI_pI _) (pI0 h2) ?_
      refine go_iconst (eD DX7_cell 19 rfl) (?_)
      refine go_callV (ci := 7) [(0, 0)] (eD DX7_cell 20 rfl) ⟨eMem 2 216 rfl rfl, sX7_answer⟩ ⟨Nat.le_of_ble_eq_true rfl, Nat.le_of_ble_eq_true rfl⟩ (by decide) ⟨rfl, by decide, _, rfl, rfl⟩ rfl rfl (Nat.le_of_ble_eq_true rfl) (Cal.as (zX7_answer w 0  ) (r2 := some (0, 0)) (w2 := (eU w 0 2 0)) (by (try simp only [rX7_answer, if_pos h1, if_neg h2]) <;> (try rfl)) (by (try simp only [wX7_answer, if_pos h1, if_neg h2]) <;> (try rfl))) (?_)
      simp only [if_pos h1, if_neg h2]
      exact go_iret (eD DX7_cell 21 rfl) rfl
  · refine go_if_neF (tgt := 18) (eD DX7_cell 5 rfl) rfl (eI_pI _) (not_not_intro (pI0 h1)) ?_
    refine go_aload_n (eD DX7_cell 6 rfl) rfl rfl (go_iconst (eD DX7_cell 7 rfl) (?_))
    refine go_callV (ci := 7) [(0, 1)] (eD DX7_cell 8 rfl) ⟨eMem 2 54 rfl rfl, sX7_refuse⟩ ⟨Nat.le_of_ble_eq_true rfl, Nat.le_of_ble_eq_true rfl⟩ (by decide) ⟨rfl, by decide, _, rfl, rfl⟩ rfl rfl (Nat.le_of_ble_eq_true rfl) (Cal.as (zX7_refuse w 1  ) (r2 := some (0, (-1))) (w2 := (eU w 0 2 1)) (by (try simp only [rX7_refuse, if_neg h1]) <;> (try rfl)) (by (try simp only [wX7_refuse, if_neg h1]) <;> (try rfl))) (?_)
    simp only [if_neg h1]
    exact go_iret (eD DX7_cell 9 rfl) rfl
def rX7_speed (w : eW) (side : Int) : Int := if 0 < (w 2 0) ∧ 0 < (w 2 1) then (if 0 ≤ side ∧ side < 4 then (if side < 0 then 1 else (if side < 4 then (w 4 side) else 1)) else (-1)) else (-1)
def wX7_speed (w : eW) (side : Int) : eW := if 0 < (w 2 0) ∧ 0 < (w 2 1) then (if 0 ≤ side ∧ side < 4 then (eU w 0 2 0) else (eU w 0 2 1)) else (eU w 0 2 1)
set_option maxRecDepth 20000 in
theorem zX7_speed (w : eW) (side : Int) (hside : eI side) (hB : HB w) : Cal mX7_speed [eR 0, (0, side)] w (some (0, rX7_speed w side)) (wX7_speed w side) := by
  obtain ⟨⟨b1, b2, b3, b4, b5, b6⟩, b7, b8, b9⟩ := id hB
  have b10 := b8 side
  unfold rX7_speed wX7_speed
  refine Cal.of (by decide +kernel) (Nat.le_of_ble_eq_true rfl) ?_
  show Go _ 0 [(0, eR 0), (1, (0, side))] [] _ _ _
  refine go_aload_n (eD DX7_speed 0 rfl) rfl rfl (go_getR (t := 2) (eD DX7_speed 1 rfl) fX7_29 (by decide) rfl ⟨rfl, rfl⟩ (go_callV (ci := 0) [] (eD DX7_speed 2 rfl) ⟨eMem 2 232 rfl rfl, sX0_stands⟩ ⟨Nat.le_of_ble_eq_true rfl, Nat.le_of_ble_eq_true rfl⟩ (by decide) ⟨rfl, by decide, _, rfl, rfl⟩ rfl rfl (Nat.le_of_ble_eq_true rfl) (y_b_X0_stands w  (by first | assumption | omega)) (?_)))
  by_cases h1 : 0 < (w 2 0) ∧ 0 < (w 2 1)
  · refine go_if_eqF (tgt := 17) (eD DX7_speed 3 rfl) rfl (eI_pI _) (pI1 h1) ?_
    refine go_iload_n (eD DX7_speed 4 rfl) rfl rfl (go_callS [(0, side)] (eD DX7_speed 5 rfl) ⟨eMem 3 96 rfl rfl, sX7_isSide⟩ ⟨Nat.le_of_ble_eq_true rfl, Nat.le_of_ble_eq_true rfl⟩ rfl rfl (Nat.le_of_ble_eq_true rfl) (y_b_X7_isSide w side (by omega) ) (?_))
    by_cases h2 : 0 ≤ side ∧ side < 4
    · refine go_if_neT (tgt := 23) (eD DX7_speed 6 rfl) rfl (eI_pI _) (pI1 h2) ?_
      refine go_aload_n (eD DX7_speed 11 rfl) rfl rfl (go_aload_n (eD DX7_speed 12 rfl) rfl rfl (go_getR (t := 2) (eD DX7_speed 13 rfl) fX7_29 (by decide) rfl ⟨rfl, rfl⟩ (go_iload_n (eD DX7_speed 14 rfl) rfl rfl (?_))))
      by_cases h3 : side < 0
      · refine go_callV (ci := 0) [(0, side)] (eD DX7_speed 15 rfl) ⟨eMem 3 99 rfl rfl, sX0_pace⟩ ⟨Nat.le_of_ble_eq_true rfl, Nat.le_of_ble_eq_true rfl⟩ (by decide) ⟨rfl, by decide, _, rfl, rfl⟩ rfl rfl (Nat.le_of_ble_eq_true rfl) (Cal.as (zX0_pace w side (by omega) ) (r2 := some (0, 1)) (w2 := w) (by (try simp only [rX0_pace, if_pos h1, if_pos h2, if_pos h3]) <;> (try rfl)) rfl) (?_)
        refine go_callV (ci := 7) [(0, 1)] (eD DX7_speed 16 rfl) ⟨eMem 2 216 rfl rfl, sX7_answer⟩ ⟨Nat.le_of_ble_eq_true rfl, Nat.le_of_ble_eq_true rfl⟩ (by decide) ⟨rfl, by decide, _, rfl, rfl⟩ rfl rfl (Nat.le_of_ble_eq_true rfl) (Cal.as (zX7_answer w 1  ) (r2 := some (0, 1)) (w2 := (eU w 0 2 0)) (by (try simp only [rX7_answer, if_pos h1, if_pos h2, if_pos h3]) <;> (try rfl)) (by (try simp only [wX7_answer, if_pos h1, if_pos h2, if_pos h3]) <;> (try rfl))) (?_)
        simp only [if_pos h1, if_pos h2, if_pos h3]
        exact go_iret (eD DX7_speed 17 rfl) rfl
      · by_cases h4 : side < 4
        · refine go_callV (ci := 0) [(0, side)] (eD DX7_speed 15 rfl) ⟨eMem 3 99 rfl rfl, sX0_pace⟩ ⟨Nat.le_of_ble_eq_true rfl, Nat.le_of_ble_eq_true rfl⟩ (by decide) ⟨rfl, by decide, _, rfl, rfl⟩ rfl rfl (Nat.le_of_ble_eq_true rfl) (Cal.as (zX0_pace w side (by omega) ) (r2 := some (0, w 4 side)) (w2 := w) (by (try simp only [rX0_pace, if_pos h1, if_pos h2, if_neg h3, if_pos h4]) <;> (try rfl)) rfl) (?_)
          refine go_callV (ci := 7) [(0, w 4 side)] (eD DX7_speed 16 rfl) ⟨eMem 2 216 rfl rfl, sX7_answer⟩ ⟨Nat.le_of_ble_eq_true rfl, Nat.le_of_ble_eq_true rfl⟩ (by decide) ⟨rfl, by decide, _, rfl, rfl⟩ rfl rfl (Nat.le_of_ble_eq_true rfl) (Cal.as (zX7_answer w (w 4 side)  ) (r2 := some (0, w 4 side)) (w2 := (eU w 0 2 0)) (by (try simp only [rX7_answer, if_pos h1, if_pos h2, if_neg h3, if_pos h4]) <;> (try rfl)) (by (try simp only [wX7_answer, if_pos h1, if_pos h2, if_neg h3, if_pos h4]) <;> (try rfl))) (?_)
          simp only [if_pos h1, if_pos h2, if_neg h3, if_pos h4]
          exact go_iret (eD DX7_speed 17 rfl) rfl
        · refine go_callV (ci := 0) [(0, side)] (eD DX7_speed 15 rfl) ⟨eMem 3 99 rfl rfl, sX0_pace⟩ ⟨Nat.le_of_ble_eq_true rfl, Nat.le_of_ble_eq_true rfl⟩ (by decide) ⟨rfl, by decide, _, rfl, rfl⟩ rfl rfl (Nat.le_of_ble_eq_true rfl) (Cal.as (zX0_pace w side (by omega) ) (r2 := some (0, 1)) (w2 := w) (by (try simp only [rX0_pace, if_pos h1, if_pos h2, if_neg h3, if_neg h4]) <;> (try rfl)) rfl) (?_)
          refine go_callV (ci := 7) [(0, 1)] (eD DX7_speed 16 rfl) ⟨eMem 2 216 rfl rfl, sX7_answer⟩ ⟨Nat.le_of_ble_eq_true rfl, Nat.le_of_ble_eq_true rfl⟩ (by decide) ⟨rfl, by decide, _, rfl, rfl⟩ rfl rfl (Nat.le_of_ble_eq_true rfl) (Cal.as (zX7_answer w 1  ) (r2 := some (0, 1)) (w2 := (eU w 0 2 0)) (by (try simp only [rX7_answer, if_pos h1, if_pos h2, if_neg h3, if_neg h4]) <;> (try rfl)) (by (try simp only [wX7_answer, if_pos h1, if_pos h2, if_neg h3, if_neg h4]) <;> (try rfl))) (?_)
          simp only [if_pos h1, if_pos h2, if_neg h3, if_neg h4]
          exact go_iret (eD DX7_speed 17 rfl) rfl
    · refine go_if_neF (tgt := 23) (eD DX7_speed 6 rfl) rfl (eI_pI _) (not_not_intro (pI0 h2)) ?_
      refine go_aload_n (eD DX7_speed 7 rfl) rfl rfl (go_iconst (eD DX7_speed 8 rfl) (?_))
      refine go_callV (ci := 7) [(0, 1)] (eD DX7_speed 9 rfl) ⟨eMem 2 54 rfl rfl, sX7_refuse⟩ ⟨Nat.le_of_ble_eq_true rfl, Nat.le_of_ble_eq_true rfl⟩ (by decide) ⟨rfl, by decide, _, rfl, rfl⟩ rfl rfl (Nat.le_of_ble_eq_true rfl) (Cal.as (zX7_refuse w 1  ) (r2 := some (0, (-1))) (w2 := (eU w 0 2 1)) (by (try simp only [rX7_refuse, if_pos h1, if_neg h2]) <;> (try rfl)) (by (try simp only [wX7_refuse, if_pos h1, if_neg h2]) <;> (try rfl))) (?_)
      simp only [if_pos h1, if_neg h2]
      exact go_iret (eD DX7_speed 10 rfl) rfl
  · refine go_if_eqT (tgt := 17) (eD DX7_speed 3 rfl) rfl (eI_pI _) (pI0 h1) ?_
    refine go_aload_n (eD DX7_speed 7 rfl) rfl rfl (go_iconst (eD DX7_speed 8 rfl) (?_))
    refine go_callV (ci := 7) [(0, 1)] (eD DX7_speed 9 rfl) ⟨eMem 2 54 rfl rfl, sX7_refuse⟩ ⟨Nat.le_of_ble_eq_true rfl, Nat.le_of_ble_eq_true rfl⟩ (by decide) ⟨rfl, by decide, _, rfl, rfl⟩ rfl rfl (Nat.le_of_ble_eq_true rfl) (Cal.as (zX7_refuse w 1  ) (r2 := some (0, (-1))) (w2 := (eU w 0 2 1)) (by (try simp only [rX7_refuse, if_neg h1]) <;> (try rfl)) (by (try simp only [wX7_refuse, if_neg h1]) <;> (try rfl))) (?_)
    simp only [if_neg h1]
    exact go_iret (eD DX7_speed 10 rfl) rfl
def rX7_mark (w : eW) (i what : Int) : Int := if 0 ≤ i ∧ i < (w 2 2) then (if what = 0 ∨ what = 1 then (if ((2 * i) + what) < 0 then 0 else (if ((2 * i) + what) < 16 then (w 5 ((2 * i) + what)) else 0)) else (-1)) else (-1)
def wX7_mark (w : eW) (i what : Int) : eW := if 0 ≤ i ∧ i < (w 2 2) then (if what = 0 ∨ what = 1 then (eU w 0 2 0) else (eU w 0 2 1)) else (eU w 0 2 1)
set_option maxRecDepth 20000 in
theorem zX7_mark (w : eW) (i what : Int) (hi : eI i) (hwhat : eI what) (hB : HB w) : Cal mX7_mark [eR 0, (0, i), (0, what)] w (some (0, rX7_mark w i what)) (wX7_mark w i what) := by
  obtain ⟨⟨b1, b2, b3, b4, b5, b6⟩, b7, b8, b9⟩ := id hB
  have b10 := b9 (2 * i + what)
  unfold rX7_mark wX7_mark
  refine Cal.of (by decide +kernel) (Nat.le_of_ble_eq_true rfl) ?_
  show Go _ 0 [(0, eR 0), (1, (0, i)), (2, (0, what))] [] _ _ _
  refine go_aload_n (eD DX7_mark 0 rfl) rfl rfl (go_getR (t := 2) (eD DX7_mark 1 rfl) fX7_29 (by decide) rfl ⟨rfl, rfl⟩ (go_iload_n (eD DX7_mark 2 rfl) rfl rfl (go_callV (ci := 0) [(0, i)] (eD DX7_mark 3 rfl) ⟨eMem 3 124 rfl rfl, sX0_hasMark⟩ ⟨Nat.le_of_ble_eq_true rfl, Nat.le_of_ble_eq_true rfl⟩ (by decide) ⟨rfl, by decide, _, rfl, rfl⟩ rfl rfl (Nat.le_of_ble_eq_true rfl) (y_b_X0_hasMark w i (by omega) (by first | assumption | omega)) (?_))))
  by_cases h1 : 0 ≤ i ∧ i < (w 2 2)
  · refine go_if_eqF (tgt := 18) (eD DX7_mark 4 rfl) rfl (eI_pI _) (pI1 h1) ?_
    refine go_iload_n (eD DX7_mark 5 rfl) rfl rfl (go_callS [(0, what)] (eD DX7_mark 6 rfl) ⟨eMem 3 128 rfl rfl, sX7_isPartOfTwo⟩ ⟨Nat.le_of_ble_eq_true rfl, Nat.le_of_ble_eq_true rfl⟩ rfl rfl (Nat.le_of_ble_eq_true rfl) (y_b_X7_isPartOfTwo w what (by omega) ) (?_))
    by_cases h2 : what = 0 ∨ what = 1
    · refine go_if_neT (tgt := 24) (eD DX7_mark 7 rfl) rfl (eI_pI _) (pI1 h2) ?_
      refine go_aload_n (eD DX7_mark 12 rfl) rfl rfl (go_aload_n (eD DX7_mark 13 rfl) rfl rfl (go_getR (t := 2) (eD DX7_mark 14 rfl) fX7_29 (by decide) rfl ⟨rfl, rfl⟩ (go_iload_n (eD DX7_mark 15 rfl) rfl rfl (go_iload_n (eD DX7_mark 16 rfl) rfl rfl (?_)))))
      by_cases h3 : ((2 * i) + what) < 0
      · refine go_callV (ci := 0) [(0, i), (0, what)] (eD DX7_mark 17 rfl) ⟨eMem 3 131 rfl rfl, sX0_markPart⟩ ⟨Nat.le_of_ble_eq_true rfl, Nat.le_of_ble_eq_true rfl⟩ (by decide) ⟨rfl, by decide, _, rfl, rfl⟩ rfl rfl (Nat.le_of_ble_eq_true rfl) (Cal.as (zX0_markPart w i what (by omega) (by omega) (by first | assumption | omega)) (r2 := some (0, 0)) (w2 := w) (by (try simp only [rX0_markPart, if_pos h1, if_pos h2, if_pos h3]) <;> (try rfl)) rfl) (?_)
        refine go_callV (ci := 7) [(0, 0)] (eD DX7_mark 18 rfl) ⟨eMem 2 216 rfl rfl, sX7_answer⟩ ⟨Nat.le_of_ble_eq_true rfl, Nat.le_of_ble_eq_true rfl⟩ (by decide) ⟨rfl, by decide, _, rfl, rfl⟩ rfl rfl (Nat.le_of_ble_eq_true rfl) (Cal.as (zX7_answer w 0  ) (r2 := some (0, 0)) (w2 := (eU w 0 2 0)) (by (try simp only [rX7_answer, if_pos h1, if_pos h2, if_pos h3]) <;> (try rfl)) (by (try simp only [wX7_answer, if_pos h1, if_pos h2, if_pos h3]) <;> (try rfl))) (?_)
        simp only [if_pos h1, if_pos h2, if_pos h3]
        exact go_iret (eD DX7_mark 19 rfl) rfl
      · by_cases h4 : ((2 * i) + what) < 16
        · refine go_callV (ci := 0) [(0, i), (0, what)] (eD DX7_mark 17 rfl) ⟨eMem 3 131 rfl rfl, sX0_markPart⟩ ⟨Nat.le_of_ble_eq_true rfl, Nat.le_of_ble_eq_true rfl⟩ (by decide) ⟨rfl, by decide, _, rfl, rfl⟩ rfl rfl (Nat.le_of_ble_eq_true rfl) (Cal.as (zX0_markPart w i what (by omega) (by omega) (by first | assumption | omega)) (r2 := some (0, w 5 ((2 * i) + what))) (w2 := w) (by (try simp only [rX0_markPart, if_pos h1, if_pos h2, if_neg h3, if_pos h4]) <;> (try rfl)) rfl) (?_)
          refine go_callV (ci := 7) [(0, w 5 ((2 * i) + what))] (eD DX7_mark 18 rfl) ⟨eMem 2 216 rfl rfl, sX7_answer⟩ ⟨Nat.le_of_ble_eq_true rfl, Nat.le_of_ble_eq_true rfl⟩ (by decide) ⟨rfl, by decide, _, rfl, rfl⟩ rfl rfl (Nat.le_of_ble_eq_true rfl) (Cal.as (zX7_answer w (w 5 ((2 * i) + what))  ) (r2 := some (0, w 5 ((2 * i) + what))) (w2 := (eU w 0 2 0)) (by (try simp only [rX7_answer, if_pos h1, if_pos h2, if_neg h3, if_pos h4]) <;> (try rfl)) (by (try simp only [wX7_answer, if_pos h1, if_pos h2, if_neg h3, if_pos h4]) <;> (try rfl))) (?_)
          simp only [if_pos h1, if_pos h2, if_neg h3, if_pos h4]
          exact go_iret (eD DX7_mark 19 rfl) rfl
        · refine go_callV (ci := 0) [(0, i), (0, what)] (eD DX7_mark 17 rfl) ⟨eMem 3 131 rfl rfl, sX0_markPart⟩ ⟨Nat.le_of_ble_eq_true rfl, Nat.le_of_ble_eq_true rfl⟩ (by decide) ⟨rfl, by decide, _, rfl, rfl⟩ rfl rfl (Nat.le_of_ble_eq_true rfl) (Cal.as (zX0_markPart w i what (by omega) (by omega) (by first | assumption | omega)) (r2 := some (0, 0)) (w2 := w) (by (try simp only [rX0_markPart, if_pos h1, if_pos h2, if_neg h3, if_neg h4]) <;> (try rfl)) rfl) (?_)
          refine go_callV (ci := 7) [(0, 0)] (eD DX7_mark 18 rfl) ⟨eMem 2 216 rfl rfl, sX7_answer⟩ ⟨Nat.le_of_ble_eq_true rfl, Nat.le_of_ble_eq_true rfl⟩ (by decide) ⟨rfl, by decide, _, rfl, rfl⟩ rfl rfl (Nat.le_of_ble_eq_true rfl) (Cal.as (zX7_answer w 0  ) (r2 := some (0, 0)) (w2 := (eU w 0 2 0)) (by (try simp only [rX7_answer, if_pos h1, if_pos h2, if_neg h3, if_neg h4]) <;> (try rfl)) (by (try simp only [wX7_answer, if_pos h1, if_pos h2, if_neg h3, if_neg h4]) <;> (try rfl))) (?_)
          simp only [if_pos h1, if_pos h2, if_neg h3, if_neg h4]
          exact go_iret (eD DX7_mark 19 rfl) rfl
    · refine go_if_neF (tgt := 24) (eD DX7_mark 7 rfl) rfl (eI_pI _) (not_not_intro (pI0 h2)) ?_
      refine go_aload_n (eD DX7_mark 8 rfl) rfl rfl (go_iconst (eD DX7_mark 9 rfl) (?_))
      refine go_callV (ci := 7) [(0, 1)] (eD DX7_mark 10 rfl) ⟨eMem 2 54 rfl rfl, sX7_refuse⟩ ⟨Nat.le_of_ble_eq_true rfl, Nat.le_of_ble_eq_true rfl⟩ (by decide) ⟨rfl, by decide, _, rfl, rfl⟩ rfl rfl (Nat.le_of_ble_eq_true rfl) (Cal.as (zX7_refuse w 1  ) (r2 := some (0, (-1))) (w2 := (eU w 0 2 1)) (by (try simp only [rX7_refuse, if_pos h1, if_neg h2]) <;> (try rfl)) (by (try simp only [wX7_refuse, if_pos h1, if_neg h2]) <;> (try rfl))) (?_)
      simp only [if_pos h1, if_neg h2]
      exact go_iret (eD DX7_mark 11 rfl) rfl
  · refine go_if_eqT (tgt := 18) (eD DX7_mark 4 rfl) rfl (eI_pI _) (pI0 h1) ?_
    refine go_aload_n (eD DX7_mark 8 rfl) rfl rfl (go_iconst (eD DX7_mark 9 rfl) (?_))
    refine go_callV (ci := 7) [(0, 1)] (eD DX7_mark 10 rfl) ⟨eMem 2 54 rfl rfl, sX7_refuse⟩ ⟨Nat.le_of_ble_eq_true rfl, Nat.le_of_ble_eq_true rfl⟩ (by decide) ⟨rfl, by decide, _, rfl, rfl⟩ rfl rfl (Nat.le_of_ble_eq_true rfl) (Cal.as (zX7_refuse w 1  ) (r2 := some (0, (-1))) (w2 := (eU w 0 2 1)) (by (try simp only [rX7_refuse, if_neg h1]) <;> (try rfl)) (by (try simp only [wX7_refuse, if_neg h1]) <;> (try rfl))) (?_)
    simp only [if_neg h1]
    exact go_iret (eD DX7_mark 11 rfl) rfl
def wX7_beginAct (w : eW) : eW := if (w 6 1) < 10 then (if ((w 6 1) * 14) < 0 then (eU (eU (eU (eU (eU w 13 4 0) 16 9 0) 16 10 0) 16 11 0) 24 9 0) else (if 140 < (((w 6 1) * 14) + 14) then (eU (eU (eU (eU (eU w 13 4 0) 16 9 0) 16 10 0) 16 11 0) 24 9 0) else (eU (eU (eU (eU (eU (eU (eCpy (eCpy w 3 7 0 ((w 6 1) * 14) 10) 4 7 0 (((w 6 1) * 14) + 10) 4) 6 1 (((eCpy (eCpy w 3 7 0 ((w 6 1) * 14) 10) 4 7 0 (((w 6 1) * 14) + 10) 4) 6 1) + 1)) 13 4 0) 16 9 0) 16 10 0) 16 11 0) 24 9 0))) else (eU (eU (eU (eU (eU (eU (eCpy (eCpy (eU (eCpy w 7 7 14 0 126) 6 1 9) 3 7 0 (9 * 14) 10) 4 7 0 ((9 * 14) + 10) 4) 6 1 (((eCpy (eCpy (eU (eCpy w 7 7 14 0 126) 6 1 9) 3 7 0 (9 * 14) 10) 4 7 0 ((9 * 14) + 10) 4) 6 1) + 1)) 13 4 0) 16 9 0) 16 10 0) 16 11 0) 24 9 0)
set_option maxRecDepth 20000 in
theorem zX7_beginAct (w : eW) (hp : 0 ≤ w 6 1 ∧ w 6 1 ≤ 10) : Cal mX7_beginAct [eR 0] w none (wX7_beginAct w) := by
  unfold wX7_beginAct
  refine Cal.of (by decide +kernel) (Nat.le_of_ble_eq_true rfl) ?_
  show Go _ 0 [(0, eR 0)] [] _ _ _
  refine go_aload_n (eD DX7_beginAct 0 rfl) rfl rfl (go_getR (t := 6) (eD DX7_beginAct 1 rfl) fX7_36 (by decide) rfl ⟨rfl, rfl⟩ (go_aload_n (eD DX7_beginAct 2 rfl) rfl rfl (go_getR (t := 2) (eD DX7_beginAct 3 rfl) fX7_29 (by decide) rfl ⟨rfl, rfl⟩ (?_))))
  by_cases h1 : (w 6 1) < 10
  · by_cases h2 : ((w 6 1) * 14) < 0
    · refine go_callV (ci := 1) [eR 2] (eD DX7_beginAct 4 rfl) ⟨eMem 4 149 rfl rfl, sX1_keep⟩ ⟨Nat.le_of_ble_eq_true rfl, Nat.le_of_ble_eq_true rfl⟩ (by decide) ⟨rfl, by decide, _, rfl, rfl⟩ rfl rfl (Nat.le_of_ble_eq_true rfl) (Cal.as (zX1_keep w  (by first | assumption | omega)) (r2 := none) (w2 := w) rfl (by (try simp only [wX1_keep, if_pos h1, if_pos h2]) <;> (try rfl))) (?_)
      refine go_aload_n (eD DX7_beginAct 5 rfl) rfl rfl (?_)
      refine go_callV (ci := 7) [] (eD DX7_beginAct 6 rfl) ⟨eMem 2 207 rfl rfl, sX7_forgetMeasures⟩ ⟨Nat.le_of_ble_eq_true rfl, Nat.le_of_ble_eq_true rfl⟩ (by decide) ⟨rfl, by decide, _, rfl, rfl⟩ rfl rfl (Nat.le_of_ble_eq_true rfl) (Cal.as (zX7_forgetMeasures w  ) (r2 := none) (w2 := (eU (eU (eU (eU (eU w 13 4 0) 16 9 0) 16 10 0) 16 11 0) 24 9 0)) rfl (by (try simp only [wX7_forgetMeasures, if_pos h1, if_pos h2]) <;> (try rfl))) (?_)
      simp only [if_pos h1, if_pos h2]
      exact go_vret (eD DX7_beginAct 7 rfl) rfl
    · by_cases h3 : 140 < (((w 6 1) * 14) + 14)
      · refine go_callV (ci := 1) [eR 2] (eD DX7_beginAct 4 rfl) ⟨eMem 4 149 rfl rfl, sX1_keep⟩ ⟨Nat.le_of_ble_eq_true rfl, Nat.le_of_ble_eq_true rfl⟩ (by decide) ⟨rfl, by decide, _, rfl, rfl⟩ rfl rfl (Nat.le_of_ble_eq_true rfl) (Cal.as (zX1_keep w  (by first | assumption | omega)) (r2 := none) (w2 := w) rfl (by (try simp only [wX1_keep, if_pos h1, if_neg h2, if_pos h3]) <;> (try rfl))) (?_)
        refine go_aload_n (eD DX7_beginAct 5 rfl) rfl rfl (?_)
        refine go_callV (ci := 7) [] (eD DX7_beginAct 6 rfl) ⟨eMem 2 207 rfl rfl, sX7_forgetMeasures⟩ ⟨Nat.le_of_ble_eq_true rfl, Nat.le_of_ble_eq_true rfl⟩ (by decide) ⟨rfl, by decide, _, rfl, rfl⟩ rfl rfl (Nat.le_of_ble_eq_true rfl) (Cal.as (zX7_forgetMeasures w  ) (r2 := none) (w2 := (eU (eU (eU (eU (eU w 13 4 0) 16 9 0) 16 10 0) 16 11 0) 24 9 0)) rfl (by (try simp only [wX7_forgetMeasures, if_pos h1, if_neg h2, if_pos h3]) <;> (try rfl))) (?_)
        simp only [if_pos h1, if_neg h2, if_pos h3]
        exact go_vret (eD DX7_beginAct 7 rfl) rfl
      · refine go_callV (ci := 1) [eR 2] (eD DX7_beginAct 4 rfl) ⟨eMem 4 149 rfl rfl, sX1_keep⟩ ⟨Nat.le_of_ble_eq_true rfl, Nat.le_of_ble_eq_true rfl⟩ (by decide) ⟨rfl, by decide, _, rfl, rfl⟩ rfl rfl (Nat.le_of_ble_eq_true rfl) (Cal.as (zX1_keep w  (by first | assumption | omega)) (r2 := none) (w2 := (eU (eCpy (eCpy w 3 7 0 ((w 6 1) * 14) 10) 4 7 0 (((w 6 1) * 14) + 10) 4) 6 1 (((eCpy (eCpy w 3 7 0 ((w 6 1) * 14) 10) 4 7 0 (((w 6 1) * 14) + 10) 4) 6 1) + 1))) rfl (by (try simp only [wX1_keep, if_pos h1, if_neg h2, if_neg h3]) <;> (try rfl))) (?_)
        refine go_aload_n (eD DX7_beginAct 5 rfl) rfl rfl (?_)
        refine go_callV (ci := 7) [] (eD DX7_beginAct 6 rfl) ⟨eMem 2 207 rfl rfl, sX7_forgetMeasures⟩ ⟨Nat.le_of_ble_eq_true rfl, Nat.le_of_ble_eq_true rfl⟩ (by decide) ⟨rfl, by decide, _, rfl, rfl⟩ rfl rfl (Nat.le_of_ble_eq_true rfl) (Cal.as (zX7_forgetMeasures (eU (eCpy (eCpy w 3 7 0 ((w 6 1) * 14) 10) 4 7 0 (((w 6 1) * 14) + 10) 4) 6 1 (((eCpy (eCpy w 3 7 0 ((w 6 1) * 14) 10) 4 7 0 (((w 6 1) * 14) + 10) 4) 6 1) + 1))  ) (r2 := none) (w2 := (eU (eU (eU (eU (eU (eU (eCpy (eCpy w 3 7 0 ((w 6 1) * 14) 10) 4 7 0 (((w 6 1) * 14) + 10) 4) 6 1 (((eCpy (eCpy w 3 7 0 ((w 6 1) * 14) 10) 4 7 0 (((w 6 1) * 14) + 10) 4) 6 1) + 1)) 13 4 0) 16 9 0) 16 10 0) 16 11 0) 24 9 0)) rfl (by (try simp only [wX7_forgetMeasures, if_pos h1, if_neg h2, if_neg h3]) <;> (try rfl))) (?_)
        simp only [if_pos h1, if_neg h2, if_neg h3]
        exact go_vret (eD DX7_beginAct 7 rfl) rfl
  · refine go_callV (ci := 1) [eR 2] (eD DX7_beginAct 4 rfl) ⟨eMem 4 149 rfl rfl, sX1_keep⟩ ⟨Nat.le_of_ble_eq_true rfl, Nat.le_of_ble_eq_true rfl⟩ (by decide) ⟨rfl, by decide, _, rfl, rfl⟩ rfl rfl (Nat.le_of_ble_eq_true rfl) (Cal.as (zX1_keep w  (by first | assumption | omega)) (r2 := none) (w2 := (eU (eCpy (eCpy (eU (eCpy w 7 7 14 0 126) 6 1 9) 3 7 0 (9 * 14) 10) 4 7 0 ((9 * 14) + 10) 4) 6 1 (((eCpy (eCpy (eU (eCpy w 7 7 14 0 126) 6 1 9) 3 7 0 (9 * 14) 10) 4 7 0 ((9 * 14) + 10) 4) 6 1) + 1))) rfl (by (try simp only [wX1_keep, if_neg h1]) <;> (try rfl))) (?_)
    refine go_aload_n (eD DX7_beginAct 5 rfl) rfl rfl (?_)
    refine go_callV (ci := 7) [] (eD DX7_beginAct 6 rfl) ⟨eMem 2 207 rfl rfl, sX7_forgetMeasures⟩ ⟨Nat.le_of_ble_eq_true rfl, Nat.le_of_ble_eq_true rfl⟩ (by decide) ⟨rfl, by decide, _, rfl, rfl⟩ rfl rfl (Nat.le_of_ble_eq_true rfl) (Cal.as (zX7_forgetMeasures (eU (eCpy (eCpy (eU (eCpy w 7 7 14 0 126) 6 1 9) 3 7 0 (9 * 14) 10) 4 7 0 ((9 * 14) + 10) 4) 6 1 (((eCpy (eCpy (eU (eCpy w 7 7 14 0 126) 6 1 9) 3 7 0 (9 * 14) 10) 4 7 0 ((9 * 14) + 10) 4) 6 1) + 1))  ) (r2 := none) (w2 := (eU (eU (eU (eU (eU (eU (eCpy (eCpy (eU (eCpy w 7 7 14 0 126) 6 1 9) 3 7 0 (9 * 14) 10) 4 7 0 ((9 * 14) + 10) 4) 6 1 (((eCpy (eCpy (eU (eCpy w 7 7 14 0 126) 6 1 9) 3 7 0 (9 * 14) 10) 4 7 0 ((9 * 14) + 10) 4) 6 1) + 1)) 13 4 0) 16 9 0) 16 10 0) 16 11 0) 24 9 0)) rfl (by (try simp only [wX7_forgetMeasures, if_neg h1]) <;> (try rfl))) (?_)
    simp only [if_neg h1]
    exact go_vret (eD DX7_beginAct 7 rfl) rfl
def rX7_undo (w : eW) : Int := if 0 < (w 2 0) ∧ 0 < (w 2 1) then (if 0 < (w 6 1) then (if (((w 6 1) - 1) * 14) < 0 then (w 6 1) else (if 140 < ((((w 6 1) - 1) * 14) + 14) then (w 6 1) else (((eCpy (eCpy w 7 3 (((w 6 1) - 1) * 14) 0 10) 7 4 ((((w 6 1) - 1) * 14) + 10) 0 4) 6 1) - 1))) else (-1)) else (-1)
def wX7_undo (w : eW) : eW := if 0 < (w 2 0) ∧ 0 < (w 2 1) then (if 0 < (w 6 1) then (if (((w 6 1) - 1) * 14) < 0 then (eU (eU (eU (eU (eU (eU w 13 4 0) 16 9 0) 16 10 0) 16 11 0) 24 9 0) 0 2 0) else (if 140 < ((((w 6 1) - 1) * 14) + 14) then (eU (eU (eU (eU (eU (eU w 13 4 0) 16 9 0) 16 10 0) 16 11 0) 24 9 0) 0 2 0) else (eU (eU (eU (eU (eU (eU (eU (eCpy (eCpy w 7 3 (((w 6 1) - 1) * 14) 0 10) 7 4 ((((w 6 1) - 1) * 14) + 10) 0 4) 6 1 (((eCpy (eCpy w 7 3 (((w 6 1) - 1) * 14) 0 10) 7 4 ((((w 6 1) - 1) * 14) + 10) 0 4) 6 1) - 1)) 13 4 0) 16 9 0) 16 10 0) 16 11 0) 24 9 0) 0 2 0))) else (eU w 0 2 5)) else (eU w 0 2 1)
set_option maxRecDepth 20000 in
theorem zX7_undo (w : eW) (hB : HB w) (hp : 0 ≤ w 6 1 ∧ w 6 1 ≤ 10) : Cal mX7_undo [eR 0] w (some (0, rX7_undo w)) (wX7_undo w) := by
  obtain ⟨⟨b1, b2, b3, b4, b5, b6⟩, b7, b8, b9⟩ := id hB
  unfold rX7_undo wX7_undo
  refine Cal.of (by decide +kernel) (Nat.le_of_ble_eq_true rfl) ?_
  show Go _ 0 [(0, eR 0)] [] _ _ _
  refine go_aload_n (eD DX7_undo 0 rfl) rfl rfl (go_getR (t := 2) (eD DX7_undo 1 rfl) fX7_29 (by decide) rfl ⟨rfl, rfl⟩ (go_callV (ci := 0) [] (eD DX7_undo 2 rfl) ⟨eMem 2 232 rfl rfl, sX0_stands⟩ ⟨Nat.le_of_ble_eq_true rfl, Nat.le_of_ble_eq_true rfl⟩ (by decide) ⟨rfl, by decide, _, rfl, rfl⟩ rfl rfl (Nat.le_of_ble_eq_true rfl) (y_b_X0_stands w  (by first | assumption | omega)) (?_)))
  by_cases h1 : 0 < (w 2 0) ∧ 0 < (w 2 1)
  · refine go_if_neT (tgt := 16) (eD DX7_undo 3 rfl) rfl (eI_pI _) (pI1 h1) ?_
    refine go_aload_n (eD DX7_undo 8 rfl) rfl rfl (go_getR (t := 6) (eD DX7_undo 9 rfl) fX7_36 (by decide) rfl ⟨rfl, rfl⟩ (go_getI (kz := 1) (eD DX7_undo 10 rfl) fX7_101 (by decide) rfl rfl rfl (?_)))
    by_cases h2 : 0 < (w 6 1)
    · refine go_if_gtT (tgt := 32) (eD DX7_undo 11 rfl) rfl (show eI (w 6 1) from by omega) h2 ?_
      refine go_aload_n (eD DX7_undo 16 rfl) rfl rfl (go_getR (t := 6) (eD DX7_undo 17 rfl) fX7_36 (by decide) rfl ⟨rfl, rfl⟩ (go_aload_n (eD DX7_undo 18 rfl) rfl rfl (go_getR (t := 2) (eD DX7_undo 19 rfl) fX7_29 (by decide) rfl ⟨rfl, rfl⟩ (?_))))
      by_cases h3 : (((w 6 1) - 1) * 14) < 0
      · refine go_callV (ci := 1) [eR 2] (eD DX7_undo 20 rfl) ⟨eMem 4 183 rfl rfl, sX1_bringBack⟩ ⟨Nat.le_of_ble_eq_true rfl, Nat.le_of_ble_eq_true rfl⟩ (by decide) ⟨rfl, by decide, _, rfl, rfl⟩ rfl rfl (Nat.le_of_ble_eq_true rfl) (Cal.as (zX1_bringBack w  (by first | assumption | omega)) (r2 := none) (w2 := w) rfl (by (try simp only [wX1_bringBack, if_pos h1, if_pos h2, if_pos h3]) <;> (try rfl))) (?_)
        refine go_aload_n (eD DX7_undo 21 rfl) rfl rfl (?_)
        refine go_callV (ci := 7) [] (eD DX7_undo 22 rfl) ⟨eMem 2 207 rfl rfl, sX7_forgetMeasures⟩ ⟨Nat.le_of_ble_eq_true rfl, Nat.le_of_ble_eq_true rfl⟩ (by decide) ⟨rfl, by decide, _, rfl, rfl⟩ rfl rfl (Nat.le_of_ble_eq_true rfl) (Cal.as (zX7_forgetMeasures w  ) (r2 := none) (w2 := (eU (eU (eU (eU (eU w 13 4 0) 16 9 0) 16 10 0) 16 11 0) 24 9 0)) rfl (by (try simp only [wX7_forgetMeasures, if_pos h1, if_pos h2, if_pos h3]) <;> (try rfl))) (?_)
        refine go_aload_n (eD DX7_undo 23 rfl) rfl rfl (go_aload_n (eD DX7_undo 24 rfl) rfl rfl (go_getR (t := 6) (eD DX7_undo 25 rfl) fX7_36 (by decide) rfl ⟨rfl, rfl⟩ (go_getI (kz := 1) (eD DX7_undo 26 rfl) fX7_101 (by decide) rfl rfl rfl (?_))))
        refine go_callV (ci := 7) [(0, w 6 1)] (eD DX7_undo 27 rfl) ⟨eMem 2 216 rfl rfl, sX7_answer⟩ ⟨Nat.le_of_ble_eq_true rfl, Nat.le_of_ble_eq_true rfl⟩ (by decide) ⟨rfl, by decide, _, rfl, rfl⟩ rfl rfl (Nat.le_of_ble_eq_true rfl) (Cal.as (zX7_answer (eU (eU (eU (eU (eU w 13 4 0) 16 9 0) 16 10 0) 16 11 0) 24 9 0) (w 6 1)  ) (r2 := some (0, w 6 1)) (w2 := (eU (eU (eU (eU (eU (eU w 13 4 0) 16 9 0) 16 10 0) 16 11 0) 24 9 0) 0 2 0)) (by (try simp only [rX7_answer, if_pos h1, if_pos h2, if_pos h3]) <;> (try rfl)) (by (try simp only [wX7_answer, if_pos h1, if_pos h2, if_pos h3]) <;> (try rfl))) (?_)
        simp only [if_pos h1, if_pos h2, if_pos h3]
        exact go_iret (eD DX7_undo 28 rfl) rfl
      · by_cases h4 : 140 < ((((w 6 1) - 1) * 14) + 14)
        · refine go_callV (ci := 1) [eR 2] (eD DX7_undo 20 rfl) ⟨eMem 4 183 rfl rfl, sX1_bringBack⟩ ⟨Nat.le_of_ble_eq_true rfl, Nat.le_of_ble_eq_true rfl⟩ (by decide) ⟨rfl, by decide, _, rfl, rfl⟩ rfl rfl (Nat.le_of_ble_eq_true rfl) (Cal.as (zX1_bringBack w  (by first | assumption | omega)) (r2 := none) (w2 := w) rfl (by (try simp only [wX1_bringBack, if_pos h1, if_pos h2, if_neg h3, if_pos h4]) <;> (try rfl))) (?_)
          refine go_aload_n (eD DX7_undo 21 rfl) rfl rfl (?_)
          refine go_callV (ci := 7) [] (eD DX7_undo 22 rfl) ⟨eMem 2 207 rfl rfl, sX7_forgetMeasures⟩ ⟨Nat.le_of_ble_eq_true rfl, Nat.le_of_ble_eq_true rfl⟩ (by decide) ⟨rfl, by decide, _, rfl, rfl⟩ rfl rfl (Nat.le_of_ble_eq_true rfl) (Cal.as (zX7_forgetMeasures w  ) (r2 := none) (w2 := (eU (eU (eU (eU (eU w 13 4 0) 16 9 0) 16 10 0) 16 11 0) 24 9 0)) rfl (by (try simp only [wX7_forgetMeasures, if_pos h1, if_pos h2, if_neg h3, if_pos h4]) <;> (try rfl))) (?_)
          refine go_aload_n (eD DX7_undo 23 rfl) rfl rfl (go_aload_n (eD DX7_undo 24 rfl) rfl rfl (go_getR (t := 6) (eD DX7_undo 25 rfl) fX7_36 (by decide) rfl ⟨rfl, rfl⟩ (go_getI (kz := 1) (eD DX7_undo 26 rfl) fX7_101 (by decide) rfl rfl rfl (?_))))
          refine go_callV (ci := 7) [(0, w 6 1)] (eD DX7_undo 27 rfl) ⟨eMem 2 216 rfl rfl, sX7_answer⟩ ⟨Nat.le_of_ble_eq_true rfl, Nat.le_of_ble_eq_true rfl⟩ (by decide) ⟨rfl, by decide, _, rfl, rfl⟩ rfl rfl (Nat.le_of_ble_eq_true rfl) (Cal.as (zX7_answer (eU (eU (eU (eU (eU w 13 4 0) 16 9 0) 16 10 0) 16 11 0) 24 9 0) (w 6 1)  ) (r2 := some (0, w 6 1)) (w2 := (eU (eU (eU (eU (eU (eU w 13 4 0) 16 9 0) 16 10 0) 16 11 0) 24 9 0) 0 2 0)) (by (try simp only [rX7_answer, if_pos h1, if_pos h2, if_neg h3, if_pos h4]) <;> (try rfl)) (by (try simp only [wX7_answer, if_pos h1, if_pos h2, if_neg h3, if_pos h4]) <;> (try rfl))) (?_)
          simp only [if_pos h1, if_pos h2, if_neg h3, if_pos h4]
          exact go_iret (eD DX7_undo 28 rfl) rfl
        · refine go_callV (ci := 1) [eR 2] (eD DX7_undo 20 rfl) ⟨eMem 4 183 rfl rfl, sX1_bringBack⟩ ⟨Nat.le_of_ble_eq_true rfl, Nat.le_of_ble_eq_true rfl⟩ (by decide) ⟨rfl, by decide, _, rfl, rfl⟩ rfl rfl (Nat.le_of_ble_eq_true rfl) (Cal.as (zX1_bringBack w  (by first | assumption | omega)) (r2 := none) (w2 := (eU (eCpy (eCpy w 7 3 (((w 6 1) - 1) * 14) 0 10) 7 4 ((((w 6 1) - 1) * 14) + 10) 0 4) 6 1 (((eCpy (eCpy w 7 3 (((w 6 1) - 1) * 14) 0 10) 7 4 ((((w 6 1) - 1) * 14) + 10) 0 4) 6 1) - 1))) rfl (by (try simp only [wX1_bringBack, if_pos h1, if_pos h2, if_neg h3, if_neg h4]) <;> (try rfl))) (?_)
          refine go_aload_n (eD DX7_undo 21 rfl) rfl rfl (?_)
          refine go_callV (ci := 7) [] (eD DX7_undo 22 rfl) ⟨eMem 2 207 rfl rfl, sX7_forgetMeasures⟩ ⟨Nat.le_of_ble_eq_true rfl, Nat.le_of_ble_eq_true rfl⟩ (by decide) ⟨rfl, by decide, _, rfl, rfl⟩ rfl rfl (Nat.le_of_ble_eq_true rfl) (Cal.as (zX7_forgetMeasures (eU (eCpy (eCpy w 7 3 (((w 6 1) - 1) * 14) 0 10) 7 4 ((((w 6 1) - 1) * 14) + 10) 0 4) 6 1 (((eCpy (eCpy w 7 3 (((w 6 1) - 1) * 14) 0 10) 7 4 ((((w 6 1) - 1) * 14) + 10) 0 4) 6 1) - 1))  ) (r2 := none) (w2 := (eU (eU (eU (eU (eU (eU (eCpy (eCpy w 7 3 (((w 6 1) - 1) * 14) 0 10) 7 4 ((((w 6 1) - 1) * 14) + 10) 0 4) 6 1 (((eCpy (eCpy w 7 3 (((w 6 1) - 1) * 14) 0 10) 7 4 ((((w 6 1) - 1) * 14) + 10) 0 4) 6 1) - 1)) 13 4 0) 16 9 0) 16 10 0) 16 11 0) 24 9 0)) rfl (by (try simp only [wX7_forgetMeasures, if_pos h1, if_pos h2, if_neg h3, if_neg h4]) <;> (try rfl))) (?_)
          refine go_aload_n (eD DX7_undo 23 rfl) rfl rfl (go_aload_n (eD DX7_undo 24 rfl) rfl rfl (go_getR (t := 6) (eD DX7_undo 25 rfl) fX7_36 (by decide) rfl ⟨rfl, rfl⟩ (go_getI (kz := 1) (eD DX7_undo 26 rfl) fX7_101 (by decide) rfl rfl rfl (?_))))
          refine go_callV (ci := 7) [(0, ((eCpy (eCpy w 7 3 (((w 6 1) - 1) * 14) 0 10) 7 4 ((((w 6 1) - 1) * 14) + 10) 0 4) 6 1) - 1)] (eD DX7_undo 27 rfl) ⟨eMem 2 216 rfl rfl, sX7_answer⟩ ⟨Nat.le_of_ble_eq_true rfl, Nat.le_of_ble_eq_true rfl⟩ (by decide) ⟨rfl, by decide, _, rfl, rfl⟩ rfl rfl (Nat.le_of_ble_eq_true rfl) (Cal.as (zX7_answer (eU (eU (eU (eU (eU (eU (eCpy (eCpy w 7 3 (((w 6 1) - 1) * 14) 0 10) 7 4 ((((w 6 1) - 1) * 14) + 10) 0 4) 6 1 (((eCpy (eCpy w 7 3 (((w 6 1) - 1) * 14) 0 10) 7 4 ((((w 6 1) - 1) * 14) + 10) 0 4) 6 1) - 1)) 13 4 0) 16 9 0) 16 10 0) 16 11 0) 24 9 0) (((eCpy (eCpy w 7 3 (((w 6 1) - 1) * 14) 0 10) 7 4 ((((w 6 1) - 1) * 14) + 10) 0 4) 6 1) - 1)  ) (r2 := some (0, ((eCpy (eCpy w 7 3 (((w 6 1) - 1) * 14) 0 10) 7 4 ((((w 6 1) - 1) * 14) + 10) 0 4) 6 1) - 1)) (w2 := (eU (eU (eU (eU (eU (eU (eU (eCpy (eCpy w 7 3 (((w 6 1) - 1) * 14) 0 10) 7 4 ((((w 6 1) - 1) * 14) + 10) 0 4) 6 1 (((eCpy (eCpy w 7 3 (((w 6 1) - 1) * 14) 0 10) 7 4 ((((w 6 1) - 1) * 14) + 10) 0 4) 6 1) - 1)) 13 4 0) 16 9 0) 16 10 0) 16 11 0) 24 9 0) 0 2 0)) (by (try simp only [rX7_answer, if_pos h1, if_pos h2, if_neg h3, if_neg h4]) <;> (try rfl)) (by (try simp only [wX7_answer, if_pos h1, if_pos h2, if_neg h3, if_neg h4]) <;> (try rfl))) (?_)
          simp only [if_pos h1, if_pos h2, if_neg h3, if_neg h4]
          exact go_iret (eD DX7_undo 28 rfl) rfl
    · refine go_if_gtF (tgt := 32) (eD DX7_undo 11 rfl) rfl (show eI (w 6 1) from by omega) h2 ?_
      refine go_aload_n (eD DX7_undo 12 rfl) rfl rfl (go_iconst (eD DX7_undo 13 rfl) (?_))
      refine go_callV (ci := 7) [(0, 5)] (eD DX7_undo 14 rfl) ⟨eMem 2 54 rfl rfl, sX7_refuse⟩ ⟨Nat.le_of_ble_eq_true rfl, Nat.le_of_ble_eq_true rfl⟩ (by decide) ⟨rfl, by decide, _, rfl, rfl⟩ rfl rfl (Nat.le_of_ble_eq_true rfl) (Cal.as (zX7_refuse w 5  ) (r2 := some (0, (-1))) (w2 := (eU w 0 2 5)) (by (try simp only [rX7_refuse, if_pos h1, if_neg h2]) <;> (try rfl)) (by (try simp only [wX7_refuse, if_pos h1, if_neg h2]) <;> (try rfl))) (?_)
      simp only [if_pos h1, if_neg h2]
      exact go_iret (eD DX7_undo 15 rfl) rfl
  · refine go_if_neF (tgt := 16) (eD DX7_undo 3 rfl) rfl (eI_pI _) (not_not_intro (pI0 h1)) ?_
    refine go_aload_n (eD DX7_undo 4 rfl) rfl rfl (go_iconst (eD DX7_undo 5 rfl) (?_))
    refine go_callV (ci := 7) [(0, 1)] (eD DX7_undo 6 rfl) ⟨eMem 2 54 rfl rfl, sX7_refuse⟩ ⟨Nat.le_of_ble_eq_true rfl, Nat.le_of_ble_eq_true rfl⟩ (by decide) ⟨rfl, by decide, _, rfl, rfl⟩ rfl rfl (Nat.le_of_ble_eq_true rfl) (Cal.as (zX7_refuse w 1  ) (r2 := some (0, (-1))) (w2 := (eU w 0 2 1)) (by (try simp only [rX7_refuse, if_neg h1]) <;> (try rfl)) (by (try simp only [wX7_refuse, if_neg h1]) <;> (try rfl))) (?_)
    simp only [if_neg h1]
    exact go_iret (eD DX7_undo 7 rfl) rfl
theorem Fr_begin (w : eW) : Fr [6, 7, 13, 16, 24] w (wX7_beginAct w) := by
  intro k hk
  simp only [List.mem_cons, List.not_mem_nil, or_false, not_or] at hk
  obtain ⟨h1, h2, h3, h4, h5⟩ := hk
  unfold wX7_beginAct
  repeat' split
  all_goals simp [eU, eCpy, h1, h2, h3, h4, h5]
theorem HB_fr {S : List Nat} {w w1 : eW} (h : Fr S w w1) (hB : HB w) (hS : 2 ∉ S ∧ 3 ∉ S ∧ 4 ∉ S ∧ 5 ∉ S) : HB w1 := by
  unfold HB
  rw [h 2 hS.1, h 3 hS.2.1, h 4 hS.2.2.1, h 5 hS.2.2.2]
  exact hB
theorem MB_fr {S : List Nat} {w w1 : eW} (h : Fr S w w1) (hM : MB w) (hS : 33 ∉ S ∧ 38 ∉ S ∧ 40 ∉ S) : MB w1 := by
  unfold MB
  rw [h 33 hS.1, h 38 hS.2.1, h 40 hS.2.2]
  exact hM
