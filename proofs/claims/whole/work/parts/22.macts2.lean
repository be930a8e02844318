/-- the model's undo -/
def wUndoM (w : eW) : eW := eU (eU (eSet (eU (eU w 33 0 0) 33 27 (w 33 27 - 1)) 38 0 144 (fun j => w 39 ((w 33 27 - 1) * 144 + j))) 33 1 0) 33 2 (-1)
theorem y_X8_undo (w : eW) (hM : MB w) (hh : ¬ w 33 28 = 0) (ha : ¬ w 33 27 = 0) : Cal mX8_undo [eR 33] w (some (0, w 33 27 - 1)) (wUndoM w) := by
  obtain ⟨⟨c1, c2, c3, c4, c5, c6, c7, c8, c9, c10⟩, c11, c12, c13⟩ := id hM
  refine Cal.of (by decide +kernel) (Nat.le_of_ble_eq_true rfl) (tX8_undo_0 w hM (fun h => absurd h hh) (fun _ h => absurd h ha) (fun _ _ => ?_))
  refine loop_set (w := eU (eU w 33 0 0) 33 27 (w 33 27 - 1)) (o := 38) (a := 0) (N := 144) (g := fun j => w 39 ((w 33 27 - 1) * 144 + j)) (P := fun k w0 => Go mX8_undo 43 [(0, eR 33), (1, (0, k))] [] w0 (some (0, w 33 27 - 1)) (wUndoM w)) (by omega) ?_ ?_
  · have e2 : eSet (eU (eU w 33 0 0) 33 27 (w 33 27 - 1)) 38 0 144 (fun j => w 39 ((w 33 27 - 1) * 144 + j)) 33 27 = w 33 27 - 1 := by rw [eSet_ne (by decide), eU_get, if_pos rfl]
    apply tX8_undo_43 _ _ (by rw [e2]; omega) (by omega)
    · intro h; omega
    · intro _
      rw [e2]
      exact ⟨rfl, rfl⟩
  · intro k h1 h2 ih
    have e2 : eSet (eU (eU w 33 0 0) 33 27 (w 33 27 - 1)) 38 0 k (fun j => w 39 ((w 33 27 - 1) * 144 + j)) 33 27 = w 33 27 - 1 := by rw [eSet_ne (by decide), eU_get, if_pos rfl]
    have e3 : eSet (eU (eU w 33 0 0) 33 27 (w 33 27 - 1)) 38 0 k (fun j => w 39 ((w 33 27 - 1) * 144 + j)) 39 = w 39 := by rw [eSet_ne (by decide)]; rfl
    apply tX8_undo_43 _ _ (by rw [e2]; omega) (by omega)
    · intro _
      rw [e2, e3]
      rw [Int.zero_add] at ih
      exact ih
    · intro h; omega
theorem y_X8_undo1 (w : eW) (hM : MB w) (hh : w 33 28 = 0) : Cal mX8_undo [eR 33] w (some (0, -1)) (eU (eU (eU w 33 0 0) 33 1 1) 33 2 (-1)) :=
  Cal.of (by decide +kernel) (Nat.le_of_ble_eq_true rfl) (tX8_undo_0 w hM (fun _ => ⟨rfl, rfl⟩) (fun h _ => absurd hh h) (fun h _ => absurd hh h))
theorem y_X8_undo5 (w : eW) (hM : MB w) (hh : ¬ w 33 28 = 0) (ha : w 33 27 = 0) : Cal mX8_undo [eR 33] w (some (0, -1)) (eU (eU (eU w 33 0 0) 33 1 5) 33 2 (-1)) :=
  Cal.of (by decide +kernel) (Nat.le_of_ble_eq_true rfl) (tX8_undo_0 w hM (fun h => absurd h hh) (fun _ _ => ⟨rfl, rfl⟩) (fun _ h => absurd ha h))
/-- what remembers leaves: the house, and behind the kept ones the house -/
theorem wRem_now (w : eW) : wRem w 38 = w 38 := by
  unfold wRem
  rw [eU_ne (by decide), eSet_ne (by decide)]
  unfold wRemA
  split
  · rw [eSet_ne (by decide), eU_ne (by decide)]
  · rfl
theorem Fr_rem (w : eW) : Fr [33, 39] w (wRem w) := by
  intro k hk
  simp only [List.mem_cons, List.not_mem_nil, or_false, not_or] at hk
  unfold wRem
  rw [eU_ne hk.1, eSet_ne hk.2]
  unfold wRemA
  split
  · rw [eSet_ne hk.2, eU_ne hk.1]
  · rfl
theorem wRem_acts {w : eW} (ha : 0 ≤ w 33 27 ∧ w 33 27 ≤ 10) : wRem w 33 27 = (if w 33 27 = 10 then 9 else w 33 27) + 1 := by
  unfold wRem
  rw [eU_get, if_pos rfl, wRemA_acts ha]
theorem wRem_33 (w : eW) {i : Int} (hi : i ≠ 27) : wRem w 33 i = w 33 i := by
  unfold wRem
  rw [eU_get, if_neg hi, eSet_ne (by decide)]
  unfold wRemA
  split
  · rw [eSet_ne (by decide), eU_get, if_neg hi]
  · rfl
theorem wRem_past {w : eW} (ha : 0 ≤ w 33 27 ∧ w 33 27 ≤ 10) (j : Int) (hj : 0 ≤ j ∧ j < 144) : wRem w 39 ((wRem w 33 27 - 1) * 144 + j) = w 38 j := by
  have e1 := wRem_acts ha
  have e2 := wRemA_acts ha
  have e0 : wRem w 38 = wRemA w 38 := by unfold wRem; rw [eU_ne (by decide), eSet_ne (by decide)]
  rw [e1, show ((if w 33 27 = 10 then (9 : Int) else w 33 27) + 1 - 1) = wRemA w 33 27 by rw [e2]; omega]
  rw [← wRem_now w, e0]
  unfold wRem
  rw [eU_ne (by decide), eSet_at, if_pos (by omega), show wRemA w 33 27 * 144 + j - wRemA w 33 27 * 144 = j by omega]
theorem MB_rem {w : eW} (hM : MB w) : MB (wRem w) := by
  obtain ⟨⟨c1, c2, c3, c4, c5, c6, c7, c8, c9, c10⟩, c11, c12, c13⟩ := id hM
  have e1 := wRem_acts ⟨c7, c8⟩
  unfold MB
  rw [wRem_33 w (i := 24) (by decide), wRem_33 w (i := 25) (by decide), wRem_33 w (i := 26) (by decide), wRem_33 w (i := 28) (by decide), wRem_now, Fr_rem w 40 (by decide), e1]
  refine ⟨⟨c1, c2, c3, c4, c5, c6, ?_, ?_, c9, c10⟩, c11, c12, c13⟩ <;> split <;> omega
set_option maxRecDepth 20000 in
theorem tX8_turn_0 {r : Option eV} {w9 : eW} (w : eW) (what : Int) (hw : eI what) (hM : MB w) (k1 : (w 33 28) = 0 → r = some (0, 0) ∧ w9 = (eU (eU (eU w 33 0 0) 33 1 1) 33 2 (-1))) (k2 : ¬ ((w 33 28) = 0) → 0 ≤ what ∧ what ≤ 1 → Go mX8_turn 35 [(0, eR 33), (1, (0, what)), (2, (0, 0))] [] (wRem (eU w 33 0 0)) r w9) (k3 : ¬ ((w 33 28) = 0) → ¬ (0 ≤ what ∧ what ≤ 1) → r = some (0, 0) ∧ w9 = (eU (eU (eU w 33 0 0) 33 1 1) 33 2 (-1))) : Go mX8_turn 0 [(0, eR 33), (1, (0, what))] [] w r w9 := by
  obtain ⟨⟨c1, c2, c3, c4, c5, c6, c7, c8, c9, c10⟩, c11, c12, c13⟩ := id hM
  have ha0 : 0 ≤ (eU w 33 0 0) 33 27 ∧ (eU w 33 0 0) 33 27 ≤ 10 := ⟨c7, c8⟩
  refine go_aload_n (eD DX8_turn 0 rfl) rfl rfl (go_iconst (eD DX8_turn 1 rfl) (go_putI (kz := 0) (eD DX8_turn 2 rfl) fX8_95 (by decide) rfl rfl (fun q h => by cases h; exact ⟨rfl, rfl⟩) rfl (go_aload_n (eD DX8_turn 3 rfl) rfl rfl (go_getI (kz := 28) (eD DX8_turn 4 rfl) fX8_228 (by decide) rfl rfl rfl (?_)))))
  by_cases h1 : (w 33 28) = 0
  · refine go_if_eqT (tgt := 21) (eD DX8_turn 5 rfl) rfl (show eI (w 33 28) from by omega) h1 ?_
    refine go_aload_n (eD DX8_turn 11 rfl) rfl rfl (go_iconst (eD DX8_turn 12 rfl) (?_))
    refine go_callV (ci := 8) [(0, 1)] (eD DX8_turn 13 rfl) ⟨eMem 5 233 rfl rfl, sX8_refused⟩ ⟨Nat.le_of_ble_eq_true rfl, Nat.le_of_ble_eq_true rfl⟩ (by decide) ⟨rfl, by decide, _, rfl, rfl⟩ rfl rfl (Nat.le_of_ble_eq_true rfl) (Cal.as (zX8_refused (eU w 33 0 0) 1  ) (r2 := some (0, (-1))) (w2 := (eU (eU (eU w 33 0 0) 33 1 1) 33 2 (-1))) (by (try simp only [rX8_refused, if_pos h1]) <;> (try rfl)) (by (try simp only [wX8_refused, if_pos h1]) <;> (try rfl))) (?_)
    rw [(k1 h1).1, (k1 h1).2]
    exact go_istore_n (eD DX8_turn 14 rfl) rfl (by decide) (go_iconst (eD DX8_turn 15 rfl) (go_zret (eD DX8_turn 16 rfl) rfl (by decide)))
  · refine go_if_eqF (tgt := 21) (eD DX8_turn 5 rfl) rfl (show eI (w 33 28) from by omega) h1 ?_
    refine go_iload_n (eD DX8_turn 6 rfl) rfl rfl (go_iconst (eD DX8_turn 7 rfl) (go_iconst (eD DX8_turn 8 rfl) (go_callS [(0, what), (0, 0), (0, 1)] (eD DX8_turn 9 rfl) ⟨eMem 5 230 rfl rfl, sX8_in⟩ ⟨Nat.le_of_ble_eq_true rfl, Nat.le_of_ble_eq_true rfl⟩ rfl rfl (Nat.le_of_ble_eq_true rfl) (y_b_X8_in (eU w 33 0 0) what 0 1 (by omega) (by decide) (by decide) ) (?_))))
    by_cases h2 : 0 ≤ what ∧ what ≤ 1
    · refine go_if_neT (tgt := 29) (eD DX8_turn 10 rfl) rfl (eI_pI _) (pI1 h2) ?_
      exact go_aload_n (eD DX8_turn 17 rfl) rfl rfl (go_callV (ci := 8) [] (eD DX8_turn 18 rfl) ⟨eMem 7 46 rfl rfl, sX8_remembers⟩ ⟨Nat.le_of_ble_eq_true rfl, Nat.le_of_ble_eq_true rfl⟩ (by decide) ⟨rfl, by decide, _, rfl, rfl⟩ rfl rfl (Nat.le_of_ble_eq_true rfl) (y_X8_remembers (eU w 33 0 0) (by first | assumption | omega)) (go_iconst (eD DX8_turn 19 rfl) (go_istore_n (eD DX8_turn 20 rfl) rfl (by decide) (Go.pick [1, 2, 0] rfl (k2 h1 h2)))))
    · refine go_if_neF (tgt := 29) (eD DX8_turn 10 rfl) rfl (eI_pI _) (not_not_intro (pI0 h2)) ?_
      refine go_aload_n (eD DX8_turn 11 rfl) rfl rfl (go_iconst (eD DX8_turn 12 rfl) (?_))
      refine go_callV (ci := 8) [(0, 1)] (eD DX8_turn 13 rfl) ⟨eMem 5 233 rfl rfl, sX8_refused⟩ ⟨Nat.le_of_ble_eq_true rfl, Nat.le_of_ble_eq_true rfl⟩ (by decide) ⟨rfl, by decide, _, rfl, rfl⟩ rfl rfl (Nat.le_of_ble_eq_true rfl) (Cal.as (zX8_refused (eU w 33 0 0) 1  ) (r2 := some (0, (-1))) (w2 := (eU (eU (eU w 33 0 0) 33 1 1) 33 2 (-1))) (by (try simp only [rX8_refused, if_neg h1, if_neg h2]) <;> (try rfl)) (by (try simp only [wX8_refused, if_neg h1, if_neg h2]) <;> (try rfl))) (?_)
      rw [(k3 h1 h2).1, (k3 h1 h2).2]
      exact go_istore_n (eD DX8_turn 14 rfl) rfl (by decide) (go_iconst (eD DX8_turn 15 rfl) (go_zret (eD DX8_turn 16 rfl) rfl (by decide)))
set_option maxRecDepth 20000 in
theorem tX8_turn_35 {r : Option eV} {w9 : eW} (w : eW) (what y : Int) (hM : MB w) (hy : 0 ≤ y ∧ y ≤ 10) (k1 : y < (w 33 25) → Go mX8_turn 45 [(0, eR 33), (1, (0, what)), (2, (0, y)), (3, (0, 0))] [] w r w9) (k2 : ¬ (y < (w 33 25)) → r = some (0, 1) ∧ w9 = (eU (eU w 33 1 0) 33 2 (-1))) : Go mX8_turn 35 [(0, eR 33), (1, (0, what)), (2, (0, y))] [] w r w9 := by
  obtain ⟨⟨c1, c2, c3, c4, c5, c6, c7, c8, c9, c10⟩, c11, c12, c13⟩ := id hM
  refine go_iload_n (eD DX8_turn 21 rfl) rfl rfl (go_aload_n (eD DX8_turn 22 rfl) rfl rfl (go_getI (kz := 25) (eD DX8_turn 23 rfl) fX8_219 (by decide) rfl rfl rfl (?_)))
  by_cases h1 : y < (w 33 25)
  · refine go_icmp_geF (tgt := 129) (eD DX8_turn 24 rfl) rfl (by omega) (show eI (w 33 25) from by omega) (Int.not_le.mpr h1) ?_
    exact go_iconst (eD DX8_turn 25 rfl) (go_istore_n (eD DX8_turn 26 rfl) rfl (by decide) (Go.pick [1, 2, 3, 0] rfl (k1 h1)))
  · refine go_icmp_geT (tgt := 129) (eD DX8_turn 24 rfl) rfl (by omega) (show eI (w 33 25) from by omega) (Int.not_lt.mp h1) ?_
    refine go_aload_n (eD DX8_turn 77 rfl) rfl rfl (go_iconst (eD DX8_turn 78 rfl) (?_))
    refine go_callV (ci := 8) [(0, 1)] (eD DX8_turn 79 rfl) ⟨eMem 6 59 rfl rfl, sX8_good⟩ ⟨Nat.le_of_ble_eq_true rfl, Nat.le_of_ble_eq_true rfl⟩ (by decide) ⟨rfl, by decide, _, rfl, rfl⟩ rfl rfl (Nat.le_of_ble_eq_true rfl) (Cal.as (zX8_good w 1  ) (r2 := some (0, 1)) (w2 := (eU (eU w 33 1 0) 33 2 (-1))) (by (try simp only [rX8_good, if_neg h1]) <;> (try rfl)) (by (try simp only [wX8_good, if_neg h1]) <;> (try rfl))) (?_)
    refine go_iconst (eD DX8_turn 80 rfl) (go_icmp_neF (tgt := 142) (eD DX8_turn 81 rfl) rfl (by decide) (by decide) (not_not_intro (show (1 : Int) = 1 from by decide)) (?_))
    rw [(k2 h1).1, (k2 h1).2]
    exact go_iconst (eD DX8_turn 82 rfl) (go_goto (tgt := 143) (eD DX8_turn 83 rfl) rfl (go_zret (eD DX8_turn 85 rfl) rfl (by decide)))
set_option maxRecDepth 20000 in
theorem tX8_turn_45 {r : Option eV} {w9 : eW} (w : eW) (what y x : Int) (hM : MB w) (hw : what = 0 ∨ what = 1) (ha : 1 ≤ w 33 27) (hy : 0 ≤ y ∧ y < w 33 25) (hx : 0 ≤ x ∧ x ≤ 14) (k1 : x < (w 33 24) → what = 1 → what = 0 → Go mX8_turn 45 [(0, eR 33), (1, (0, what)), (2, (0, y)), (3, (0, x + 1))] [] (eU w 38 ((14 * y) + x) (w 39 (((((w 33 27) - 1) * 144) + (14 * (((w 33 25) - 1) - y))) + (((w 33 24) - 1) - x)))) r w9) (k2 : x < (w 33 24) → what = 1 → ¬ (what = 0) → Go mX8_turn 45 [(0, eR 33), (1, (0, what)), (2, (0, y)), (3, (0, x + 1))] [] (eU w 38 ((14 * y) + x) (w 39 (((((w 33 27) - 1) * 144) + (14 * (((w 33 25) - 1) - y))) + x))) r w9) (k3 : x < (w 33 24) → ¬ (what = 1) → what = 0 → Go mX8_turn 45 [(0, eR 33), (1, (0, what)), (2, (0, y)), (3, (0, x + 1))] [] (eU w 38 ((14 * y) + x) (w 39 (((((w 33 27) - 1) * 144) + (14 * y)) + (((w 33 24) - 1) - x)))) r w9) (k4 : x < (w 33 24) → ¬ (what = 1) → ¬ (what = 0) → Go mX8_turn 45 [(0, eR 33), (1, (0, what)), (2, (0, y)), (3, (0, x + 1))] [] (eU w 38 ((14 * y) + x) (w 39 (((((w 33 27) - 1) * 144) + (14 * y)) + x))) r w9) (k5 : ¬ (x < (w 33 24)) → Go mX8_turn 35 [(0, eR 33), (1, (0, what)), (2, (0, y + 1))] [] w r w9) : Go mX8_turn 45 [(0, eR 33), (1, (0, what)), (2, (0, y)), (3, (0, x))] [] w r w9 := by
  obtain ⟨⟨c1, c2, c3, c4, c5, c6, c7, c8, c9, c10⟩, c11, c12, c13⟩ := id hM
  refine go_iload_n (eD DX8_turn 27 rfl) rfl rfl (go_aload_n (eD DX8_turn 28 rfl) rfl rfl (go_getI (kz := 24) (eD DX8_turn 29 rfl) fX8_216 (by decide) rfl rfl rfl (?_)))
  by_cases h1 : x < (w 33 24)
  · refine go_icmp_geF (tgt := 123) (eD DX8_turn 30 rfl) rfl (by omega) (show eI (w 33 24) from by omega) (Int.not_le.mpr h1) ?_
    refine go_aload_n (eD DX8_turn 31 rfl) rfl rfl (go_getR (t := 38) (eD DX8_turn 32 rfl) fX8_26 (by decide) rfl ⟨rfl, rfl⟩ (go_bipush (eD DX8_turn 33 rfl) (by decide) (go_iload_n (eD DX8_turn 34 rfl) rfl rfl (go_imul (eD DX8_turn 35 rfl) (go_iload_n (eD DX8_turn 36 rfl) rfl rfl (go_iadd (eD DX8_turn 37 rfl) (go_aload_n (eD DX8_turn 38 rfl) rfl rfl (go_getR (t := 39) (eD DX8_turn 39 rfl) fX8_29 (by decide) rfl ⟨rfl, rfl⟩ (go_aload_n (eD DX8_turn 40 rfl) rfl rfl (go_getI (kz := 27) (eD DX8_turn 41 rfl) fX8_225 (by decide) rfl rfl rfl (go_iconst (eD DX8_turn 42 rfl) (go_isub (eD DX8_turn 43 rfl) (go_sipush (eD DX8_turn 44 rfl) (by decide) (go_imul (eD DX8_turn 45 rfl) (go_bipush (eD DX8_turn 46 rfl) (by decide) (go_iload_n (eD DX8_turn 47 rfl) rfl rfl (go_iconst (eD DX8_turn 48 rfl) (?_))))))))))))))))))
    by_cases h2 : what = 1
    · refine go_icmp_neF (tgt := 95) (eD DX8_turn 49 rfl) rfl (by omega) (by decide) (not_not_intro h2) ?_
      refine go_aload_n (eD DX8_turn 50 rfl) rfl rfl (go_getI (kz := 25) (eD DX8_turn 51 rfl) fX8_219 (by decide) rfl rfl rfl (go_iconst (eD DX8_turn 52 rfl) (go_isub (eD DX8_turn 53 rfl) (go_iload_n (eD DX8_turn 54 rfl) rfl rfl (go_isub (eD DX8_turn 55 rfl) (go_goto (tgt := 96) (eD DX8_turn 56 rfl) rfl (go_imul (eD DX8_turn 58 rfl) (go_iadd (eD DX8_turn 59 rfl) (go_iload_n (eD DX8_turn 60 rfl) rfl rfl (?_))))))))))
      by_cases h3 : what = 0
      · refine go_if_neF (tgt := 113) (eD DX8_turn 61 rfl) rfl (by omega) (not_not_intro h3) ?_
        exact go_aload_n (eD DX8_turn 62 rfl) rfl rfl (go_getI (kz := 24) (eD DX8_turn 63 rfl) fX8_216 (by decide) rfl rfl rfl (go_iconst (eD DX8_turn 64 rfl) (go_isub (eD DX8_turn 65 rfl) (go_iload_n (eD DX8_turn 66 rfl) rfl rfl (go_isub (eD DX8_turn 67 rfl) (go_goto (tgt := 114) (eD DX8_turn 68 rfl) rfl (go_iadd (eD DX8_turn 70 rfl) (go_iald (n := 1440) (eD DX8_turn 71 rfl) (by decide) rfl (show 0 ≤ (((((w 33 27) - 1) * 144) + (14 * (((w 33 25) - 1) - y))) + (((w 33 24) - 1) - x)) ∧ (((((w 33 27) - 1) * 144) + (14 * (((w 33 25) - 1) - y))) + (((w 33 24) - 1) - x)) < 1440 from by omega) (go_iast (n := 144) (eD DX8_turn 72 rfl) (by decide) rfl (by omega) (go_iinc (eD DX8_turn 73 rfl) rfl (by decide) (go_goto (tgt := 45) (eD DX8_turn 74 rfl) rfl (Go.pick [1, 2, 3, 0] rfl (k1 h1 h2 h3)))))))))))))
      · refine go_if_neT (tgt := 113) (eD DX8_turn 61 rfl) rfl (by omega) h3 ?_
        exact go_iload_n (eD DX8_turn 69 rfl) rfl rfl (go_iadd (eD DX8_turn 70 rfl) (go_iald (n := 1440) (eD DX8_turn 71 rfl) (by decide) rfl (show 0 ≤ (((((w 33 27) - 1) * 144) + (14 * (((w 33 25) - 1) - y))) + x) ∧ (((((w 33 27) - 1) * 144) + (14 * (((w 33 25) - 1) - y))) + x) < 1440 from by omega) (go_iast (n := 144) (eD DX8_turn 72 rfl) (by decide) rfl (by omega) (go_iinc (eD DX8_turn 73 rfl) rfl (by decide) (go_goto (tgt := 45) (eD DX8_turn 74 rfl) rfl (Go.pick [1, 2, 3, 0] rfl (k2 h1 h2 h3)))))))
    · refine go_icmp_neT (tgt := 95) (eD DX8_turn 49 rfl) rfl (by omega) (by decide) h2 ?_
      refine go_iload_n (eD DX8_turn 57 rfl) rfl rfl (go_imul (eD DX8_turn 58 rfl) (go_iadd (eD DX8_turn 59 rfl) (go_iload_n (eD DX8_turn 60 rfl) rfl rfl (?_))))
      by_cases h3 : what = 0
      · refine go_if_neF (tgt := 113) (eD DX8_turn 61 rfl) rfl (by omega) (not_not_intro h3) ?_
        exact go_aload_n (eD DX8_turn 62 rfl) rfl rfl (go_getI (kz := 24) (eD DX8_turn 63 rfl) fX8_216 (by decide) rfl rfl rfl (go_iconst (eD DX8_turn 64 rfl) (go_isub (eD DX8_turn 65 rfl) (go_iload_n (eD DX8_turn 66 rfl) rfl rfl (go_isub (eD DX8_turn 67 rfl) (go_goto (tgt := 114) (eD DX8_turn 68 rfl) rfl (go_iadd (eD DX8_turn 70 rfl) (go_iald (n := 1440) (eD DX8_turn 71 rfl) (by decide) rfl (show 0 ≤ (((((w 33 27) - 1) * 144) + (14 * y)) + (((w 33 24) - 1) - x)) ∧ (((((w 33 27) - 1) * 144) + (14 * y)) + (((w 33 24) - 1) - x)) < 1440 from by omega) (go_iast (n := 144) (eD DX8_turn 72 rfl) (by decide) rfl (by omega) (go_iinc (eD DX8_turn 73 rfl) rfl (by decide) (go_goto (tgt := 45) (eD DX8_turn 74 rfl) rfl (Go.pick [1, 2, 3, 0] rfl (k3 h1 h2 h3)))))))))))))
      · refine go_if_neT (tgt := 113) (eD DX8_turn 61 rfl) rfl (by omega) h3 ?_
        exact go_iload_n (eD DX8_turn 69 rfl) rfl rfl (go_iadd (eD DX8_turn 70 rfl) (go_iald (n := 1440) (eD DX8_turn 71 rfl) (by decide) rfl (show 0 ≤ (((((w 33 27) - 1) * 144) + (14 * y)) + x) ∧ (((((w 33 27) - 1) * 144) + (14 * y)) + x) < 1440 from by omega) (go_iast (n := 144) (eD DX8_turn 72 rfl) (by decide) rfl (by omega) (go_iinc (eD DX8_turn 73 rfl) rfl (by decide) (go_goto (tgt := 45) (eD DX8_turn 74 rfl) rfl (Go.pick [1, 2, 3, 0] rfl (k4 h1 h2 h3)))))))
  · refine go_icmp_geT (tgt := 123) (eD DX8_turn 30 rfl) rfl (by omega) (show eI (w 33 24) from by omega) (Int.not_lt.mp h1) ?_
    exact go_iinc (eD DX8_turn 75 rfl) rfl (by decide) (go_goto (tgt := 35) (eD DX8_turn 76 rfl) rfl (Go.pick [1, 2, 0] rfl (k5 h1)))
/-- where a cell comes from when the house is turned -/
def tnI (w : eW) (what j : Int) : Int := if what = 1 then 14 * (w 33 25 - 1 - j / 14) + j % 14 else 14 * (j / 14) + (w 33 24 - 1 - j % 14)
/-- the turned cells of a house, as far as y, x -/
def tnR (w w0 : eW) (what y x : Int) : Prop := ∀ j, 0 ≤ j → j < 144 → w0 38 j = if j < 140 ∧ j % 14 < w 33 24 ∧ j / 14 < w 33 25 ∧ (j / 14 < y ∨ (j / 14 = y ∧ j % 14 < x)) then w 38 (tnI w what j) else w 38 j
theorem y_X8_turn (w : eW) (what : Int) (hM : MB w) (hh : w 33 28 = 1) (hw : what = 0 ∨ what = 1) : ∃ w1, Cal mX8_turn [eR 33, (0, what)] w (some (0, 1)) w1 ∧ Fr [38] (eU (eU (wRem (eU w 33 0 0)) 33 1 0) 33 2 (-1)) w1 ∧ tnR w w1 what 10 0 := by
  obtain ⟨⟨c1, c2, c3, c4, c5, c6, c7, c8, c9, c10⟩, c11, c12, c13⟩ := id hM
  have hM0 : MB (eU w 33 0 0) := MB_put hM (by omega)
  have ha0 : 0 ≤ (eU w 33 0 0) 33 27 ∧ (eU w 33 0 0) 33 27 ≤ 10 := ⟨c7, c8⟩
  have hMr := MB_rem hM0
  have e24 : wRem (eU w 33 0 0) 33 24 = w 33 24 := by rw [wRem_33 _ (by decide)]; rfl
  have e25 : wRem (eU w 33 0 0) 33 25 = w 33 25 := by rw [wRem_33 _ (by decide)]; rfl
  have eac := wRem_acts ha0
  have epast := wRem_past ha0
  have e38 : (eU w 33 0 0) 38 = w 38 := rfl
  rw [e38] at epast
  have keep : ∀ w0, Fr [38] (wRem (eU w 33 0 0)) w0 → (∀ y x, tnR w w0 what y x → MB w0) := by
    intro w0 hF y x hT
    obtain ⟨d, d11, d12, d13⟩ := id hMr
    unfold MB
    rw [hF 33 (by decide), hF 40 (by decide)]
    refine ⟨d, fun i h1 h2 => ?_, fun i h1 h2 => ?_, d13⟩
    · rw [hT i h1 (by omega)]
      split
      · next hc =>
        refine c11 _ ?_ ?_
        · unfold tnI; split <;> omega
        · unfold tnI; split <;> omega
      · exact c11 i h1 h2
    · rw [hT i (by omega) h2, if_neg (by omega)]
      exact c12 i h1 h2
  have key := loop_up (P := fun y => ∀ w0, Fr [38] (wRem (eU w 33 0 0)) w0 → tnR w w0 what y 0 → ∃ w1, Go mX8_turn 35 [(0, eR 33), (1, (0, what)), (2, (0, y))] [] w0 (some (0, 1)) w1 ∧ Fr [38] (eU (eU (wRem (eU w 33 0 0)) 33 1 0) 33 2 (-1)) w1 ∧ tnR w w1 what 10 0) 0 (w 33 25) ?_ ?_ 0 (by omega) (by omega) (wRem (eU w 33 0 0)) Fr.rf (fun j h1 h2 => by rw [if_neg (by omega), wRem_now, e38])
  · obtain ⟨w1, h1, h2, h3⟩ := key
    refine ⟨w1, Cal.of (by decide +kernel) (Nat.le_of_ble_eq_true rfl) ?_, h2, h3⟩
    apply tX8_turn_0 w what (by omega) hM
    all_goals (intros; first | omega | exact h1)
  · intro w0 hF hT
    have hM1 := keep w0 hF _ _ hT
    have f25 : w0 33 25 = w 33 25 := by rw [hF 33 (by decide), e25]
    refine ⟨eU (eU w0 33 1 0) 33 2 (-1), ?_, ?_, ?_⟩
    · apply tX8_turn_35 w0 what _ hM1 (by omega)
      all_goals (intros; first | omega | exact ⟨rfl, rfl⟩)
    · intro k hk
      by_cases h33 : k = 33
      · subst h33
        funext j
        rw [eU_get, eU_get, eU_get, eU_get, hF 33 (by decide)]
      · rw [eU_ne h33, eU_ne h33, eU_ne h33, eU_ne h33]
        exact hF k hk
    · intro j h1 h2
      rw [eU_ne (by decide), eU_ne (by decide), hT j h1 h2]
      by_cases hc : j < 140 ∧ j % 14 < w 33 24 ∧ j / 14 < w 33 25
      · rw [if_pos (by omega), if_pos (by omega)]
      · rw [if_neg (by omega), if_neg (by omega)]
  · intro y hy1 hy2 ih w0 hF hT
    -- the row's loop
    have row := loop_up (P := fun x => ∀ w0, Fr [38] (wRem (eU w 33 0 0)) w0 → tnR w w0 what y x → ∃ w1, Fr [38] (wRem (eU w 33 0 0)) w1 ∧ tnR w w1 what y (w 33 24) ∧ ∀ (r : Option eV) (w9 : eW), Go mX8_turn 45 [(0, eR 33), (1, (0, what)), (2, (0, y)), (3, (0, w 33 24))] [] w1 r w9 → Go mX8_turn 45 [(0, eR 33), (1, (0, what)), (2, (0, y)), (3, (0, x))] [] w0 r w9) 0 (w 33 24) (fun w0 hF hT => ⟨w0, hF, hT, fun _ _ h => h⟩) ?_ 0 (by omega) (by omega) w0 hF hT
    · obtain ⟨wr, hFr, hTr, hgo⟩ := row
      have hMw := keep wr hFr _ _ hTr
      have g24 : wr 33 24 = w 33 24 := by rw [hFr 33 (by decide), e24]
      have g25 : wr 33 25 = w 33 25 := by rw [hFr 33 (by decide), e25]
      have g27 : wr 33 27 = wRem (eU w 33 0 0) 33 27 := by rw [hFr 33 (by decide)]
      have hM1 := keep w0 hF _ _ hT
      have f25 : w0 33 25 = w 33 25 := by rw [hF 33 (by decide), e25]
      obtain ⟨w1, i1, i2, i3⟩ := ih wr hFr (fun j h1 h2 => by
        rw [hTr j h1 h2]
        by_cases hc : j < 140 ∧ j % 14 < w 33 24 ∧ j / 14 < w 33 25 ∧ (j / 14 < y ∨ j / 14 = y ∧ j % 14 < w 33 24)
        · rw [if_pos hc, if_pos (by omega)]
        · rw [if_neg hc, if_neg (by omega)])
      refine ⟨w1, ?_, i2, i3⟩
      apply tX8_turn_35 w0 what _ hM1 (by omega)
      · intro _
        refine hgo _ _ ?_
        apply tX8_turn_45 wr what _ _ hMw hw (by rw [g27, eac]; split <;> omega) (by omega) (by omega)
        all_goals (intros; first | omega | exact i1)
      · intro h; omega
    · intro x hx1 hx2 ihx w0 hF hT
      have hM1 := keep w0 hF _ _ hT
      have f24 : w0 33 24 = w 33 24 := by rw [hF 33 (by decide), e24]
      have f25 : w0 33 25 = w 33 25 := by rw [hF 33 (by decide), e25]
      have f27 : w0 33 27 = wRem (eU w 33 0 0) 33 27 := by rw [hF 33 (by decide)]
      have hac : 1 ≤ w0 33 27 := by rw [f27, eac]; split <;> omega
      obtain ⟨w1, i1, i2, i3⟩ := ihx (eU w0 38 (14 * y + x) (w 38 (tnI w what (14 * y + x)))) (hF.put (by decide)) (fun j h1 h2 => by
        rw [eU_get]
        by_cases hj : j = 14 * y + x
        · rw [if_pos hj, if_pos (by omega), hj]
        · rw [if_neg hj, hT j h1 h2]
          by_cases hc : j < 140 ∧ j % 14 < w 33 24 ∧ j / 14 < w 33 25 ∧ (j / 14 < y ∨ j / 14 = y ∧ j % 14 < x)
          · rw [if_pos hc, if_pos (by omega)]
          · rw [if_neg hc, if_neg (by omega)])
      refine ⟨w1, i1, i2, fun r w9 h => ?_⟩
      have rd : ∀ i, 0 ≤ i → i < 144 → w0 39 ((w0 33 27 - 1) * 144 + i) = w 38 i := fun i h1 h2 => by rw [hF 39 (by decide), f27]; exact epast i ⟨h1, h2⟩
      have hfin := i3 r w9 h
      apply tX8_turn_45 w0 what _ _ hM1 hw hac (by omega) (by omega)
      all_goals (intros; first | omega | skip)
      all_goals (
        rw [f24, f25] at *
        first
          | (rw [show ((w0 33 27 - 1) * 144 + 14 * (w 33 25 - 1 - y) + x) = (w0 33 27 - 1) * 144 + (14 * (w 33 25 - 1 - y) + x) by omega, rd _ (by omega) (by omega)]
             rw [show tnI w what (14 * y + x) = 14 * (w 33 25 - 1 - y) + x by unfold tnI; rw [if_pos (by omega)]; omega] at hfin
             exact hfin)
          | (rw [show ((w0 33 27 - 1) * 144 + 14 * y + (w 33 24 - 1 - x)) = (w0 33 27 - 1) * 144 + (14 * y + (w 33 24 - 1 - x)) by omega, rd _ (by omega) (by omega)]
             rw [show tnI w what (14 * y + x) = 14 * y + (w 33 24 - 1 - x) by unfold tnI; rw [if_neg (by omega)]; omega] at hfin
             exact hfin))
