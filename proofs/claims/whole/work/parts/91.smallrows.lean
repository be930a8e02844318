theorem y_X6_toldOf (w : eW) (i what : Int) (hz : 0 ≤ i ∧ i < 280 ∧ 0 ≤ what ∧ what < 4) : Cal mX6_toldOf [eR 13, (0, i), (0, what)] w (some (0, w 14 ((i * 4) + what))) w := zX6_toldOf w i what (by omega) (by omega) hz
theorem y_X0_markPart (w : eW) (i what : Int) (hz : 0 ≤ i ∧ i < 8 ∧ 0 ≤ what ∧ what < 2) : Cal mX0_markPart [eR 2, (0, i), (0, what)] w (some (0, w 5 ((2 * i) + what))) w := by
  refine Cal.as (zX0_markPart w i what (by omega) (by omega) hz) ?_ rfl
  unfold rX0_markPart
  rw [if_neg (by omega), if_pos (by omega)]
set_option maxHeartbeats 4000000 in
set_option maxRecDepth 20000 in
theorem tX6_lengthOfSide_0 {r : Option eV} {w9 : eW} (w : eW) (side : Int) (k1 : Go mX6_lengthOfSide 4 [(0, eR 13), (1, (0, side)), (2, (0, 0)), (3, (0, 0))] [] w r w9) : Go mX6_lengthOfSide 0 [(0, eR 13), (1, (0, side))] [] w r w9 := by
  exact go_iconst (eD DX6_lengthOfSide 0 rfl) (go_istore_n (eD DX6_lengthOfSide 1 rfl) rfl (by decide) (go_iconst (eD DX6_lengthOfSide 2 rfl) (go_istore_n (eD DX6_lengthOfSide 3 rfl) rfl (by decide) (Go.pick [2, 3, 1, 0] rfl (k1)))))
set_option maxHeartbeats 4000000 in
set_option maxRecDepth 20000 in
theorem tX6_lengthOfSide_4 {r : Option eV} {w9 : eW} (w : eW) (side n i : Int) (hs : eI side) (hc : 0 ≤ w 13 3 ∧ w 13 3 ≤ 280) (hi : 0 ≤ i ∧ i ≤ 280) (hv : i < w 13 3 → eI (w 14 ((i * 4) + 0))) (k1 : i < (w 13 3) → (w 14 ((i * 4) + 0)) = side → Go mX6_lengthOfSide 4 [(0, eR 13), (1, (0, side)), (2, (0, n + (w 14 ((i * 4) + 3)))), (3, (0, i + 1))] [] w r w9) (k2 : i < (w 13 3) → ¬ ((w 14 ((i * 4) + 0)) = side) → Go mX6_lengthOfSide 4 [(0, eR 13), (1, (0, side)), (2, (0, n)), (3, (0, i + 1))] [] w r w9) (k3 : ¬ (i < (w 13 3)) → r = some (0, n) ∧ w9 = w) : Go mX6_lengthOfSide 4 [(0, eR 13), (1, (0, side)), (2, (0, n)), (3, (0, i))] [] w r w9 := by
  refine go_iload_n (eD DX6_lengthOfSide 4 rfl) rfl rfl (go_aload_n (eD DX6_lengthOfSide 5 rfl) rfl rfl (go_getI (kz := 3) (eD DX6_lengthOfSide 6 rfl) fX6_18 (by decide) rfl rfl rfl (?_)))
  by_cases h1 : i < (w 13 3)
  · refine go_icmp_geF (tgt := 37) (eD DX6_lengthOfSide 7 rfl) rfl (by omega) (show eI (w 13 3) from by omega) (Int.not_le.mpr h1) ?_
    refine go_aload_n (eD DX6_lengthOfSide 8 rfl) rfl rfl (go_iload_n (eD DX6_lengthOfSide 9 rfl) rfl rfl (go_iconst (eD DX6_lengthOfSide 10 rfl) (go_callV (ci := 6) [(0, i), (0, 0)] (eD DX6_lengthOfSide 11 rfl) ⟨eMem 4 35 rfl rfl, sX6_toldOf⟩ ⟨Nat.le_of_ble_eq_true rfl, Nat.le_of_ble_eq_true rfl⟩ (by decide) ⟨rfl, by decide, _, rfl, rfl⟩ rfl rfl (Nat.le_of_ble_eq_true rfl) (y_X6_toldOf w i 0 (by omega)) (go_iload_n (eD DX6_lengthOfSide 12 rfl) rfl rfl (?_)))))
    by_cases h2 : (w 14 ((i * 4) + 0)) = side
    · refine go_icmp_neF (tgt := 31) (eD DX6_lengthOfSide 13 rfl) rfl (show eI (w 14 ((i * 4) + 0)) from by omega) (by omega) (not_not_intro h2) ?_
      exact go_iload_n (eD DX6_lengthOfSide 14 rfl) rfl rfl (go_aload_n (eD DX6_lengthOfSide 15 rfl) rfl rfl (go_iload_n (eD DX6_lengthOfSide 16 rfl) rfl rfl (go_iconst (eD DX6_lengthOfSide 17 rfl) (go_callV (ci := 6) [(0, i), (0, 3)] (eD DX6_lengthOfSide 18 rfl) ⟨eMem 4 35 rfl rfl, sX6_toldOf⟩ ⟨Nat.le_of_ble_eq_true rfl, Nat.le_of_ble_eq_true rfl⟩ (by decide) ⟨rfl, by decide, _, rfl, rfl⟩ rfl rfl (Nat.le_of_ble_eq_true rfl) (y_X6_toldOf w i 3 (by omega)) (go_iadd (eD DX6_lengthOfSide 19 rfl) (go_istore_n (eD DX6_lengthOfSide 20 rfl) rfl (by decide) (go_iinc (eD DX6_lengthOfSide 21 rfl) rfl (by decide) (go_goto (tgt := 4) (eD DX6_lengthOfSide 22 rfl) rfl (Go.pick [2, 3, 1, 0] rfl (k1 h1 h2))))))))))
    · refine go_icmp_neT (tgt := 31) (eD DX6_lengthOfSide 13 rfl) rfl (show eI (w 14 ((i * 4) + 0)) from by omega) (by omega) h2 ?_
      exact go_iinc (eD DX6_lengthOfSide 21 rfl) rfl (by decide) (go_goto (tgt := 4) (eD DX6_lengthOfSide 22 rfl) rfl (Go.pick [1, 2, 3, 0] rfl (k2 h1 h2)))
  · refine go_icmp_geT (tgt := 37) (eD DX6_lengthOfSide 7 rfl) rfl (by omega) (show eI (w 13 3) from by omega) (Int.not_lt.mp h1) ?_
    rw [(k3 h1).1, (k3 h1).2]
    exact go_iload_n (eD DX6_lengthOfSide 23 rfl) rfl rfl (go_iret (eD DX6_lengthOfSide 24 rfl) rfl)
set_option maxHeartbeats 4000000 in
set_option maxRecDepth 20000 in
theorem tX8_rim_0 {r : Option eV} {w9 : eW} (w : eW) (side : Int) (hM : MB w) (hside : eI side) (k1 : (w 33 28) = 0 → r = some (0, (-1)) ∧ w9 = (eU (eU (eU w 33 0 0) 33 1 1) 33 2 (-1))) (k2 : ¬ ((w 33 28) = 0) → 0 ≤ side ∧ side ≤ 3 → Go mX8_rim 31 [(0, eR 33), (1, (0, side)), (2, (0, 0)), (3, (0, 0))] [] (eU w 33 0 0) r w9) (k3 : ¬ ((w 33 28) = 0) → ¬ (0 ≤ side ∧ side ≤ 3) → r = some (0, (-1)) ∧ w9 = (eU (eU (eU w 33 0 0) 33 1 1) 33 2 (-1))) : Go mX8_rim 0 [(0, eR 33), (1, (0, side))] [] w r w9 := by
  obtain ⟨⟨c1, c2, c3, c4, c5, c6, c7, c8, c9, c10⟩, c11, c12, c13⟩ := id hM
  refine go_aload_n (eD DX8_rim 0 rfl) rfl rfl (go_iconst (eD DX8_rim 1 rfl) (go_putI (kz := 0) (eD DX8_rim 2 rfl) fX8_95 (by decide) rfl rfl (fun q h => by cases h; exact ⟨rfl, rfl⟩) rfl (go_aload_n (eD DX8_rim 3 rfl) rfl rfl (go_getI (kz := 28) (eD DX8_rim 4 rfl) fX8_228 (by decide) rfl rfl rfl (?_)))))
  by_cases h1 : (w 33 28) = 0
  · refine go_if_eqT (tgt := 21) (eD DX8_rim 5 rfl) rfl (show eI (w 33 28) from by omega) h1 ?_
    refine go_aload_n (eD DX8_rim 11 rfl) rfl rfl (go_iconst (eD DX8_rim 12 rfl) (?_))
    refine go_callV (ci := 8) [(0, 1)] (eD DX8_rim 13 rfl) ⟨eMem 5 233 rfl rfl, sX8_refused⟩ ⟨Nat.le_of_ble_eq_true rfl, Nat.le_of_ble_eq_true rfl⟩ (by decide) ⟨rfl, by decide, _, rfl, rfl⟩ rfl rfl (Nat.le_of_ble_eq_true rfl) (Cal.as (zX8_refused (eU w 33 0 0) 1  ) (r2 := some (0, (-1))) (w2 := (eU (eU (eU w 33 0 0) 33 1 1) 33 2 (-1))) (by (try simp only [rX8_refused, if_pos h1]) <;> (try rfl)) (by (try simp only [wX8_refused, if_pos h1]) <;> (try rfl))) (?_)
    rw [(k1 h1).1, (k1 h1).2]
    exact go_iret (eD DX8_rim 14 rfl) rfl
  · refine go_if_eqF (tgt := 21) (eD DX8_rim 5 rfl) rfl (show eI (w 33 28) from by omega) h1 ?_
    refine go_iload_n (eD DX8_rim 6 rfl) rfl rfl (go_iconst (eD DX8_rim 7 rfl) (go_iconst (eD DX8_rim 8 rfl) (go_callS [(0, side), (0, 0), (0, 3)] (eD DX8_rim 9 rfl) ⟨eMem 5 230 rfl rfl, sX8_in⟩ ⟨Nat.le_of_ble_eq_true rfl, Nat.le_of_ble_eq_true rfl⟩ rfl rfl (Nat.le_of_ble_eq_true rfl) (y_b_X8_in (eU w 33 0 0) side 0 3 (by omega) (by decide) (by decide) ) (?_))))
    by_cases h2 : 0 ≤ side ∧ side ≤ 3
    · refine go_if_neT (tgt := 27) (eD DX8_rim 10 rfl) rfl (eI_pI _) (pI1 h2) ?_
      exact go_iconst (eD DX8_rim 15 rfl) (go_istore_n (eD DX8_rim 16 rfl) rfl (by decide) (go_iconst (eD DX8_rim 17 rfl) (go_istore_n (eD DX8_rim 18 rfl) rfl (by decide) (Go.pick [2, 3, 1, 0] rfl (k2 h1 h2)))))
    · refine go_if_neF (tgt := 27) (eD DX8_rim 10 rfl) rfl (eI_pI _) (not_not_intro (pI0 h2)) ?_
      refine go_aload_n (eD DX8_rim 11 rfl) rfl rfl (go_iconst (eD DX8_rim 12 rfl) (?_))
      refine go_callV (ci := 8) [(0, 1)] (eD DX8_rim 13 rfl) ⟨eMem 5 233 rfl rfl, sX8_refused⟩ ⟨Nat.le_of_ble_eq_true rfl, Nat.le_of_ble_eq_true rfl⟩ (by decide) ⟨rfl, by decide, _, rfl, rfl⟩ rfl rfl (Nat.le_of_ble_eq_true rfl) (Cal.as (zX8_refused (eU w 33 0 0) 1  ) (r2 := some (0, (-1))) (w2 := (eU (eU (eU w 33 0 0) 33 1 1) 33 2 (-1))) (by (try simp only [rX8_refused, if_neg h1, if_neg h2]) <;> (try rfl)) (by (try simp only [wX8_refused, if_neg h1, if_neg h2]) <;> (try rfl))) (?_)
      rw [(k3 h1 h2).1, (k3 h1 h2).2]
      exact go_iret (eD DX8_rim 14 rfl) rfl
set_option maxHeartbeats 4000000 in
set_option maxRecDepth 20000 in
theorem tX8_rim_31 {r : Option eV} {w9 : eW} (w : eW) (side n y : Int) (hM : MB w) (hy : 0 ≤ y ∧ y ≤ 20) (k1 : y < (w 33 25) → Go mX8_rim 42 [(0, eR 33), (1, (0, side)), (2, (0, n)), (3, (0, y)), (4, (0, 0))] [] w r w9) (k2 : ¬ (y < (w 33 25)) → r = some (0, n) ∧ w9 = (eU (eU w 33 1 0) 33 2 (-1))) : Go mX8_rim 31 [(0, eR 33), (1, (0, side)), (2, (0, n)), (3, (0, y))] [] w r w9 := by
  obtain ⟨⟨c1, c2, c3, c4, c5, c6, c7, c8, c9, c10⟩, c11, c12, c13⟩ := id hM
  refine go_iload_n (eD DX8_rim 19 rfl) rfl rfl (go_aload_n (eD DX8_rim 20 rfl) rfl rfl (go_getI (kz := 25) (eD DX8_rim 21 rfl) fX8_219 (by decide) rfl rfl rfl (?_)))
  by_cases h1 : y < (w 33 25)
  · refine go_icmp_geF (tgt := 82) (eD DX8_rim 22 rfl) rfl (by omega) (show eI (w 33 25) from by omega) (Int.not_le.mpr h1) ?_
    exact go_iconst (eD DX8_rim 23 rfl) (go_istore (eD DX8_rim 24 rfl) (by decide) (Go.pick [1, 2, 3, 4, 0] rfl (k1 h1)))
  · refine go_icmp_geT (tgt := 82) (eD DX8_rim 22 rfl) rfl (by omega) (show eI (w 33 25) from by omega) (Int.not_lt.mp h1) ?_
    refine go_aload_n (eD DX8_rim 45 rfl) rfl rfl (go_iload_n (eD DX8_rim 46 rfl) rfl rfl (?_))
    refine go_callV (ci := 8) [(0, n)] (eD DX8_rim 47 rfl) ⟨eMem 6 59 rfl rfl, sX8_good⟩ ⟨Nat.le_of_ble_eq_true rfl, Nat.le_of_ble_eq_true rfl⟩ (by decide) ⟨rfl, by decide, _, rfl, rfl⟩ rfl rfl (Nat.le_of_ble_eq_true rfl) (Cal.as (zX8_good w n  ) (r2 := some (0, n)) (w2 := (eU (eU w 33 1 0) 33 2 (-1))) (by (try simp only [rX8_good, if_neg h1]) <;> (try rfl)) (by (try simp only [wX8_good, if_neg h1]) <;> (try rfl))) (?_)
    rw [(k2 h1).1, (k2 h1).2]
    exact go_iret (eD DX8_rim 48 rfl) rfl
set_option maxHeartbeats 4000000 in
set_option maxRecDepth 20000 in
theorem tX8_rim_42 {r : Option eV} {w9 : eW} (w : eW) (side n y x : Int) {sl : Int} (hM : MB w) (hx : 0 ≤ x ∧ x ≤ 20) (hs : sl = 0 ∨ sl = 1) (g1 : x < w 33 24 → Cal mX8_isWalled [eR 33, (0, x), (0, y), (0, side)] w (some (0, sl)) w) (k1 : x < (w 33 24) → sl = 0 → Go mX8_rim 42 [(0, eR 33), (1, (0, side)), (2, (0, n + 0)), (3, (0, y)), (4, (0, x + 1))] [] w r w9) (k2 : x < (w 33 24) → ¬ (sl = 0) → Go mX8_rim 42 [(0, eR 33), (1, (0, side)), (2, (0, n + 1)), (3, (0, y)), (4, (0, x + 1))] [] w r w9) (k3 : ¬ (x < (w 33 24)) → Go mX8_rim 31 [(0, eR 33), (1, (0, side)), (2, (0, n)), (3, (0, y + 1))] [] w r w9) : Go mX8_rim 42 [(0, eR 33), (1, (0, side)), (2, (0, n)), (3, (0, y)), (4, (0, x))] [] w r w9 := by
  obtain ⟨⟨c1, c2, c3, c4, c5, c6, c7, c8, c9, c10⟩, c11, c12, c13⟩ := id hM
  refine go_iload (eD DX8_rim 25 rfl) rfl (go_aload_n (eD DX8_rim 26 rfl) rfl rfl (go_getI (kz := 24) (eD DX8_rim 27 rfl) fX8_216 (by decide) rfl rfl rfl (?_)))
  by_cases h1 : x < (w 33 24)
  · refine go_icmp_geF (tgt := 76) (eD DX8_rim 28 rfl) rfl (by omega) (show eI (w 33 24) from by omega) (Int.not_le.mpr h1) ?_
    refine go_iload_n (eD DX8_rim 29 rfl) rfl rfl (go_aload_n (eD DX8_rim 30 rfl) rfl rfl (go_iload (eD DX8_rim 31 rfl) rfl (go_iload_n (eD DX8_rim 32 rfl) rfl rfl (go_iload_n (eD DX8_rim 33 rfl) rfl rfl (go_callV (ci := 8) [(0, x), (0, y), (0, side)] (eD DX8_rim 34 rfl) ⟨eMem 6 71 rfl rfl, sX8_isWalled⟩ ⟨Nat.le_of_ble_eq_true rfl, Nat.le_of_ble_eq_true rfl⟩ (by decide) ⟨rfl, by decide, _, rfl, rfl⟩ rfl rfl (Nat.le_of_ble_eq_true rfl) (g1 (by assumption)) (?_))))))
    by_cases h2 : sl = 0
    · refine go_if_eqT (tgt := 67) (eD DX8_rim 35 rfl) rfl (by omega) h2 ?_
      exact go_iconst (eD DX8_rim 38 rfl) (go_iadd (eD DX8_rim 39 rfl) (go_istore_n (eD DX8_rim 40 rfl) rfl (by decide) (go_iinc (eD DX8_rim 41 rfl) rfl (by decide) (go_goto (tgt := 42) (eD DX8_rim 42 rfl) rfl (Go.pick [2, 3, 1, 4, 0] rfl (k1 h1 h2))))))
    · refine go_if_eqF (tgt := 67) (eD DX8_rim 35 rfl) rfl (by omega) h2 ?_
      exact go_iconst (eD DX8_rim 36 rfl) (go_goto (tgt := 68) (eD DX8_rim 37 rfl) rfl (go_iadd (eD DX8_rim 39 rfl) (go_istore_n (eD DX8_rim 40 rfl) rfl (by decide) (go_iinc (eD DX8_rim 41 rfl) rfl (by decide) (go_goto (tgt := 42) (eD DX8_rim 42 rfl) rfl (Go.pick [2, 3, 1, 4, 0] rfl (k2 h1 h2)))))))
  · refine go_icmp_geT (tgt := 76) (eD DX8_rim 28 rfl) rfl (by omega) (show eI (w 33 24) from by omega) (Int.not_lt.mp h1) ?_
    exact go_iinc (eD DX8_rim 43 rfl) rfl (by decide) (go_goto (tgt := 31) (eD DX8_rim 44 rfl) rfl (Go.pick [1, 2, 3, 0] rfl (k3 h1)))
set_option maxHeartbeats 4000000 in
set_option maxRecDepth 20000 in
theorem tX8_isWall_0 {r : Option eV} {w9 : eW} (w : eW) (i : Int) {w1 : eW} (hM : MB w) (hi : eI i) (hc : 0 ≤ w1 33 33 ∧ w1 33 33 ≤ 280) (g1 : Cal mX8_laysWalls [eR 33] w none w1) (k1 : (w 33 28) = 0 → r = some (0, 0) ∧ w9 = w) (k2 : ¬ ((w 33 28) = 0) → r = some (0, if 0 ≤ i ∧ i ≤ ((w1 33 33) - 1) then 1 else 0) ∧ w9 = w1) : Go mX8_isWall 0 [(0, eR 33), (1, (0, i))] [] w r w9 := by
  obtain ⟨⟨c1, c2, c3, c4, c5, c6, c7, c8, c9, c10⟩, c11, c12, c13⟩ := id hM
  refine go_aload_n (eD DX8_isWall 0 rfl) rfl rfl (go_getI (kz := 28) (eD DX8_isWall 1 rfl) fX8_228 (by decide) rfl rfl rfl (?_))
  by_cases h1 : (w 33 28) = 0
  · refine go_if_neF (tgt := 9) (eD DX8_isWall 2 rfl) rfl (show eI (w 33 28) from by omega) (not_not_intro h1) ?_
    rw [(k1 h1).1, (k1 h1).2]
    exact go_iconst (eD DX8_isWall 3 rfl) (go_zret (eD DX8_isWall 4 rfl) rfl (by decide))
  · refine go_if_neT (tgt := 9) (eD DX8_isWall 2 rfl) rfl (show eI (w 33 28) from by omega) h1 ?_
    rw [(k2 h1).1, (k2 h1).2]
    exact go_aload_n (eD DX8_isWall 5 rfl) rfl rfl (go_callV (ci := 8) [] (eD DX8_isWall 6 rfl) ⟨eMem 6 67 rfl rfl, sX8_laysWalls⟩ ⟨Nat.le_of_ble_eq_true rfl, Nat.le_of_ble_eq_true rfl⟩ (by decide) ⟨rfl, by decide, _, rfl, rfl⟩ rfl rfl (Nat.le_of_ble_eq_true rfl) g1 (go_iload_n (eD DX8_isWall 7 rfl) rfl rfl (go_iconst (eD DX8_isWall 8 rfl) (go_aload_n (eD DX8_isWall 9 rfl) rfl rfl (go_getI (kz := 33) (eD DX8_isWall 10 rfl) fX8_247 (by decide) rfl rfl rfl (go_iconst (eD DX8_isWall 11 rfl) (go_isub (eD DX8_isWall 12 rfl) (go_callS [(0, i), (0, 0), (0, (w1 33 33) - 1)] (eD DX8_isWall 13 rfl) ⟨eMem 5 230 rfl rfl, sX8_in⟩ ⟨Nat.le_of_ble_eq_true rfl, Nat.le_of_ble_eq_true rfl⟩ rfl rfl (Nat.le_of_ble_eq_true rfl) (y_b_X8_in w1 i 0 ((w1 33 33) - 1) (by omega) (by decide) (by omega) ) (go_zret (eD DX8_isWall 14 rfl) rfl (pI_or _))))))))))
set_option maxHeartbeats 4000000 in
set_option maxRecDepth 20000 in
theorem tX7_heightOfMark_0 {r : Option eV} {w9 : eW} (w : eW) (k : Int) {w1 : eW} {hh : Int} (hB : HB w) (hk : 0 ≤ k ∧ k < 8) (g1 : Cal mX5_heightOf [eR 16, (0, w 5 ((2 * k) + 0)), (0, w 5 ((2 * k) + 1))] w (some (0, hh)) w1) (k1 : r = some (0, hh) ∧ w9 = w1) : Go mX7_heightOfMark 0 [(0, eR 0), (1, (0, k))] [] w r w9 := by
  obtain ⟨⟨b1, b2, b3, b4, b5, b6⟩, b7, b8, b9⟩ := id hB
  rw [(k1).1, (k1).2]
  exact go_aload_n (eD DX7_heightOfMark 0 rfl) rfl rfl (go_getR (t := 16) (eD DX7_heightOfMark 1 rfl) fX7_63 (by decide) rfl ⟨rfl, rfl⟩ (go_aload_n (eD DX7_heightOfMark 2 rfl) rfl rfl (go_getR (t := 2) (eD DX7_heightOfMark 3 rfl) fX7_29 (by decide) rfl ⟨rfl, rfl⟩ (go_iload_n (eD DX7_heightOfMark 4 rfl) rfl rfl (go_iconst (eD DX7_heightOfMark 5 rfl) (go_callV (ci := 0) [(0, k), (0, 0)] (eD DX7_heightOfMark 6 rfl) ⟨eMem 3 131 rfl rfl, sX0_markPart⟩ ⟨Nat.le_of_ble_eq_true rfl, Nat.le_of_ble_eq_true rfl⟩ (by decide) ⟨rfl, by decide, _, rfl, rfl⟩ rfl rfl (Nat.le_of_ble_eq_true rfl) (y_X0_markPart w k 0 (by omega)) (go_aload_n (eD DX7_heightOfMark 7 rfl) rfl rfl (go_getR (t := 2) (eD DX7_heightOfMark 8 rfl) fX7_29 (by decide) rfl ⟨rfl, rfl⟩ (go_iload_n (eD DX7_heightOfMark 9 rfl) rfl rfl (go_iconst (eD DX7_heightOfMark 10 rfl) (go_callV (ci := 0) [(0, k), (0, 1)] (eD DX7_heightOfMark 11 rfl) ⟨eMem 3 131 rfl rfl, sX0_markPart⟩ ⟨Nat.le_of_ble_eq_true rfl, Nat.le_of_ble_eq_true rfl⟩ (by decide) ⟨rfl, by decide, _, rfl, rfl⟩ rfl rfl (Nat.le_of_ble_eq_true rfl) (y_X0_markPart w k 1 (by omega)) (go_callV (ci := 5) [(0, w 5 ((2 * k) + 0)), (0, w 5 ((2 * k) + 1))] (eD DX7_heightOfMark 12 rfl) ⟨eMem 3 143 rfl rfl, sX5_heightOf⟩ ⟨Nat.le_of_ble_eq_true rfl, Nat.le_of_ble_eq_true rfl⟩ (by decide) ⟨rfl, by decide, _, rfl, rfl⟩ rfl rfl (Nat.le_of_ble_eq_true rfl) g1 (go_iret (eD DX7_heightOfMark 13 rfl) rfl)))))))))))))
set_option maxHeartbeats 4000000 in
set_option maxRecDepth 20000 in
theorem tX7_countMarksAhead_0 {r : Option eV} {w9 : eW} (w : eW) (k : Int) {w1 : eW} {hh : Int} (g1 : Cal mX7_heightOfMark [eR 0, (0, k)] w (some (0, hh)) w1) (k1 : Go mX7_countMarksAhead 11 [(0, eR 0), (1, (0, k)), (2, (0, hh)), (3, (0, 0)), (4, (0, 0))] [] w1 r w9) : Go mX7_countMarksAhead 0 [(0, eR 0), (1, (0, k))] [] w r w9 := by
  exact go_aload_n (eD DX7_countMarksAhead 0 rfl) rfl rfl (go_iload_n (eD DX7_countMarksAhead 1 rfl) rfl rfl (go_callV (ci := 7) [(0, k)] (eD DX7_countMarksAhead 2 rfl) ⟨eMem 4 52 rfl rfl, sX7_heightOfMark⟩ ⟨Nat.le_of_ble_eq_true rfl, Nat.le_of_ble_eq_true rfl⟩ (by decide) ⟨rfl, by decide, _, rfl, rfl⟩ rfl rfl (Nat.le_of_ble_eq_true rfl) g1 (go_istore_n (eD DX7_countMarksAhead 3 rfl) rfl (by decide) (go_iconst (eD DX7_countMarksAhead 4 rfl) (go_istore_n (eD DX7_countMarksAhead 5 rfl) rfl (by decide) (go_iconst (eD DX7_countMarksAhead 6 rfl) (go_istore (eD DX7_countMarksAhead 7 rfl) (by decide) (Go.pick [3, 4, 2, 1, 0] rfl (k1)))))))))
set_option maxHeartbeats 4000000 in
set_option maxRecDepth 20000 in
theorem tX7_countMarksAhead_11 {r : Option eV} {w9 : eW} (w : eW) (k h ah o : Int) {w1 : eW} {hh : Int} (hB : HB w) (hk : 0 ≤ k ∧ k < 8) (ho : 0 ≤ o ∧ o ≤ 8) (hha : eI hh) (hhb : eI h) (g1 : o < w 2 2 → Cal mX7_heightOfMark [eR 0, (0, o)] w (some (0, hh)) w1) (k1 : o < (w 2 2) → h < hh → Go mX7_countMarksAhead 11 [(0, eR 0), (1, (0, k)), (2, (0, h)), (3, (0, ah + 1)), (4, (0, o + 1))] [] w1 r w9) (k2 : o < (w 2 2) → ¬ (h < hh) → hh = h → o < k → Go mX7_countMarksAhead 11 [(0, eR 0), (1, (0, k)), (2, (0, h)), (3, (0, ah + 1)), (4, (0, o + 1))] [] w1 r w9) (k3 : o < (w 2 2) → ¬ (h < hh) → hh = h → ¬ (o < k) → Go mX7_countMarksAhead 11 [(0, eR 0), (1, (0, k)), (2, (0, h)), (3, (0, ah)), (4, (0, o + 1))] [] w1 r w9) (k4 : o < (w 2 2) → ¬ (h < hh) → ¬ (hh = h) → Go mX7_countMarksAhead 11 [(0, eR 0), (1, (0, k)), (2, (0, h)), (3, (0, ah)), (4, (0, o + 1))] [] w1 r w9) (k5 : ¬ (o < (w 2 2)) → r = some (0, ah) ∧ w9 = w) : Go mX7_countMarksAhead 11 [(0, eR 0), (1, (0, k)), (2, (0, h)), (3, (0, ah)), (4, (0, o))] [] w r w9 := by
  obtain ⟨⟨b1, b2, b3, b4, b5, b6⟩, b7, b8, b9⟩ := id hB
  refine go_iload (eD DX7_countMarksAhead 8 rfl) rfl (go_aload_n (eD DX7_countMarksAhead 9 rfl) rfl rfl (go_getR (t := 2) (eD DX7_countMarksAhead 10 rfl) fX7_29 (by decide) rfl ⟨rfl, rfl⟩ (go_getI (kz := 2) (eD DX7_countMarksAhead 11 rfl) fX7_128 (by decide) rfl rfl rfl (?_))))
  by_cases h1 : o < (w 2 2)
  · refine go_icmp_geF (tgt := 58) (eD DX7_countMarksAhead 12 rfl) rfl (by omega) (show eI (w 2 2) from by omega) (Int.not_le.mpr h1) ?_
    refine go_aload_n (eD DX7_countMarksAhead 13 rfl) rfl rfl (go_iload (eD DX7_countMarksAhead 14 rfl) rfl (go_callV (ci := 7) [(0, o)] (eD DX7_countMarksAhead 15 rfl) ⟨eMem 4 52 rfl rfl, sX7_heightOfMark⟩ ⟨Nat.le_of_ble_eq_true rfl, Nat.le_of_ble_eq_true rfl⟩ (by decide) ⟨rfl, by decide, _, rfl, rfl⟩ rfl rfl (Nat.le_of_ble_eq_true rfl) (g1 (by assumption)) (go_istore (eD DX7_countMarksAhead 16 rfl) (by decide) (go_iload (eD DX7_countMarksAhead 17 rfl) rfl (go_iload_n (eD DX7_countMarksAhead 18 rfl) rfl rfl (?_))))))
    by_cases h2 : h < hh
    · refine go_icmp_gtT (tgt := 49) (eD DX7_countMarksAhead 19 rfl) rfl (by omega) (by omega) h2 ?_
      exact go_iinc (eD DX7_countMarksAhead 26 rfl) rfl (by decide) (go_iinc (eD DX7_countMarksAhead 27 rfl) rfl (by decide) (go_goto (tgt := 11) (eD DX7_countMarksAhead 28 rfl) rfl (Go.pick [3, 4, 5, 1, 0] rfl (k1 h1 h2))))
    · refine go_icmp_gtF (tgt := 49) (eD DX7_countMarksAhead 19 rfl) rfl (by omega) (by omega) h2 ?_
      refine go_iload (eD DX7_countMarksAhead 20 rfl) rfl (go_iload_n (eD DX7_countMarksAhead 21 rfl) rfl rfl (?_))
      by_cases h3 : hh = h
      · refine go_icmp_neF (tgt := 52) (eD DX7_countMarksAhead 22 rfl) rfl (by omega) (by omega) (not_not_intro h3) ?_
        refine go_iload (eD DX7_countMarksAhead 23 rfl) rfl (go_iload_n (eD DX7_countMarksAhead 24 rfl) rfl rfl (?_))
        by_cases h4 : o < k
        · refine go_icmp_geF (tgt := 52) (eD DX7_countMarksAhead 25 rfl) rfl (by omega) (by omega) (Int.not_le.mpr h4) ?_
          exact go_iinc (eD DX7_countMarksAhead 26 rfl) rfl (by decide) (go_iinc (eD DX7_countMarksAhead 27 rfl) rfl (by decide) (go_goto (tgt := 11) (eD DX7_countMarksAhead 28 rfl) rfl (Go.pick [3, 4, 5, 1, 0] rfl (k2 h1 h2 h3 h4))))
        · refine go_icmp_geT (tgt := 52) (eD DX7_countMarksAhead 25 rfl) rfl (by omega) (by omega) (Int.not_lt.mp h4) ?_
          exact go_iinc (eD DX7_countMarksAhead 27 rfl) rfl (by decide) (go_goto (tgt := 11) (eD DX7_countMarksAhead 28 rfl) rfl (Go.pick [2, 3, 4, 5, 0] rfl (k3 h1 h2 h3 h4)))
      · refine go_icmp_neT (tgt := 52) (eD DX7_countMarksAhead 22 rfl) rfl (by omega) (by omega) h3 ?_
        exact go_iinc (eD DX7_countMarksAhead 27 rfl) rfl (by decide) (go_goto (tgt := 11) (eD DX7_countMarksAhead 28 rfl) rfl (Go.pick [2, 3, 4, 5, 0] rfl (k4 h1 h2 h3)))
  · refine go_icmp_geT (tgt := 58) (eD DX7_countMarksAhead 12 rfl) rfl (by omega) (show eI (w 2 2) from by omega) (Int.not_lt.mp h1) ?_
    rw [(k5 h1).1, (k5 h1).2]
    exact go_iload_n (eD DX7_countMarksAhead 29 rfl) rfl rfl (go_iret (eD DX7_countMarksAhead 30 rfl) rfl)
set_option maxHeartbeats 4000000 in
set_option maxRecDepth 20000 in
theorem tX7_ranked_0 {r : Option eV} {w9 : eW} (w : eW) (i : Int) (hB : HB w) (hi : eI i) (k1 : 0 ≤ i ∧ i < (w 2 2) → Go mX7_ranked 21 [(0, eR 0), (1, (0, i)), (2, (0, 0)), (3, (0, 0))] [] w r w9) (k2 : ¬ (0 ≤ i ∧ i < (w 2 2)) → r = some (0, (-1)) ∧ w9 = (eU w 0 2 1)) : Go mX7_ranked 0 [(0, eR 0), (1, (0, i))] [] w r w9 := by
  obtain ⟨⟨b1, b2, b3, b4, b5, b6⟩, b7, b8, b9⟩ := id hB
  refine go_aload_n (eD DX7_ranked 0 rfl) rfl rfl (go_getR (t := 2) (eD DX7_ranked 1 rfl) fX7_29 (by decide) rfl ⟨rfl, rfl⟩ (go_iload_n (eD DX7_ranked 2 rfl) rfl rfl (go_callV (ci := 0) [(0, i)] (eD DX7_ranked 3 rfl) ⟨eMem 3 124 rfl rfl, sX0_hasMark⟩ ⟨Nat.le_of_ble_eq_true rfl, Nat.le_of_ble_eq_true rfl⟩ (by decide) ⟨rfl, by decide, _, rfl, rfl⟩ rfl rfl (Nat.le_of_ble_eq_true rfl) (y_b_X0_hasMark w i (by omega) (by first | assumption | omega)) (?_))))
  by_cases h1 : 0 ≤ i ∧ i < (w 2 2)
  · refine go_if_neT (tgt := 17) (eD DX7_ranked 4 rfl) rfl (eI_pI _) (pI1 h1) ?_
    exact go_iconst (eD DX7_ranked 9 rfl) (go_istore_n (eD DX7_ranked 10 rfl) rfl (by decide) (go_iconst (eD DX7_ranked 11 rfl) (go_istore_n (eD DX7_ranked 12 rfl) rfl (by decide) (Go.pick [2, 3, 1, 0] rfl (k1 h1)))))
  · refine go_if_neF (tgt := 17) (eD DX7_ranked 4 rfl) rfl (eI_pI _) (not_not_intro (pI0 h1)) ?_
    refine go_aload_n (eD DX7_ranked 5 rfl) rfl rfl (go_iconst (eD DX7_ranked 6 rfl) (?_))
    refine go_callV (ci := 7) [(0, 1)] (eD DX7_ranked 7 rfl) ⟨eMem 2 54 rfl rfl, sX7_refuse⟩ ⟨Nat.le_of_ble_eq_true rfl, Nat.le_of_ble_eq_true rfl⟩ (by decide) ⟨rfl, by decide, _, rfl, rfl⟩ rfl rfl (Nat.le_of_ble_eq_true rfl) (Cal.as (zX7_refuse w 1  ) (r2 := some (0, (-1))) (w2 := (eU w 0 2 1)) (by (try simp only [rX7_refuse, if_neg h1]) <;> (try rfl)) (by (try simp only [wX7_refuse, if_neg h1]) <;> (try rfl))) (?_)
    rw [(k2 h1).1, (k2 h1).2]
    exact go_iret (eD DX7_ranked 8 rfl) rfl
set_option maxHeartbeats 4000000 in
set_option maxRecDepth 20000 in
theorem tX7_ranked_21 {r : Option eV} {w9 : eW} (w : eW) (i f k : Int) {w1 : eW} {hh : Int} (hB : HB w) (hi : eI i) (hk : 0 ≤ k ∧ k ≤ 8) (hha : eI hh) (g1 : k < w 2 2 → Cal mX7_countMarksAhead [eR 0, (0, k)] w (some (0, hh)) w1) (k1 : k < (w 2 2) → hh = i → Go mX7_ranked 21 [(0, eR 0), (1, (0, i)), (2, (0, k)), (3, (0, k + 1))] [] w1 r w9) (k2 : k < (w 2 2) → ¬ (hh = i) → Go mX7_ranked 21 [(0, eR 0), (1, (0, i)), (2, (0, f)), (3, (0, k + 1))] [] w1 r w9) (k3 : ¬ (k < (w 2 2)) → r = some (0, f) ∧ w9 = (eU w 0 2 0)) : Go mX7_ranked 21 [(0, eR 0), (1, (0, i)), (2, (0, f)), (3, (0, k))] [] w r w9 := by
  obtain ⟨⟨b1, b2, b3, b4, b5, b6⟩, b7, b8, b9⟩ := id hB
  refine go_iload_n (eD DX7_ranked 13 rfl) rfl rfl (go_aload_n (eD DX7_ranked 14 rfl) rfl rfl (go_getR (t := 2) (eD DX7_ranked 15 rfl) fX7_29 (by decide) rfl ⟨rfl, rfl⟩ (go_getI (kz := 2) (eD DX7_ranked 16 rfl) fX7_128 (by decide) rfl rfl rfl (?_))))
  by_cases h1 : k < (w 2 2)
  · refine go_icmp_geF (tgt := 49) (eD DX7_ranked 17 rfl) rfl (by omega) (show eI (w 2 2) from by omega) (Int.not_le.mpr h1) ?_
    refine go_aload_n (eD DX7_ranked 18 rfl) rfl rfl (go_iload_n (eD DX7_ranked 19 rfl) rfl rfl (go_callV (ci := 7) [(0, k)] (eD DX7_ranked 20 rfl) ⟨eMem 4 48 rfl rfl, sX7_countMarksAhead⟩ ⟨Nat.le_of_ble_eq_true rfl, Nat.le_of_ble_eq_true rfl⟩ (by decide) ⟨rfl, by decide, _, rfl, rfl⟩ rfl rfl (Nat.le_of_ble_eq_true rfl) (g1 (by assumption)) (go_iload_n (eD DX7_ranked 21 rfl) rfl rfl (?_))))
    by_cases h2 : hh = i
    · refine go_icmp_neF (tgt := 43) (eD DX7_ranked 22 rfl) rfl (by omega) (by omega) (not_not_intro h2) ?_
      exact go_iload_n (eD DX7_ranked 23 rfl) rfl rfl (go_istore_n (eD DX7_ranked 24 rfl) rfl (by decide) (go_iinc (eD DX7_ranked 25 rfl) rfl (by decide) (go_goto (tgt := 21) (eD DX7_ranked 26 rfl) rfl (Go.pick [2, 3, 1, 0] rfl (k1 h1 h2)))))
    · refine go_icmp_neT (tgt := 43) (eD DX7_ranked 22 rfl) rfl (by omega) (by omega) h2 ?_
      exact go_iinc (eD DX7_ranked 25 rfl) rfl (by decide) (go_goto (tgt := 21) (eD DX7_ranked 26 rfl) rfl (Go.pick [1, 2, 3, 0] rfl (k2 h1 h2)))
  · refine go_icmp_geT (tgt := 49) (eD DX7_ranked 17 rfl) rfl (by omega) (show eI (w 2 2) from by omega) (Int.not_lt.mp h1) ?_
    refine go_aload_n (eD DX7_ranked 27 rfl) rfl rfl (go_iload_n (eD DX7_ranked 28 rfl) rfl rfl (?_))
    refine go_callV (ci := 7) [(0, f)] (eD DX7_ranked 29 rfl) ⟨eMem 2 216 rfl rfl, sX7_answer⟩ ⟨Nat.le_of_ble_eq_true rfl, Nat.le_of_ble_eq_true rfl⟩ (by decide) ⟨rfl, by decide, _, rfl, rfl⟩ rfl rfl (Nat.le_of_ble_eq_true rfl) (Cal.as (zX7_answer w f  ) (r2 := some (0, f)) (w2 := (eU w 0 2 0)) (by (try simp only [rX7_answer, if_neg h1]) <;> (try rfl)) (by (try simp only [wX7_answer, if_neg h1]) <;> (try rfl))) (?_)
    rw [(k3 h1).1, (k3 h1).2]
    exact go_iret (eD DX7_ranked 30 rfl) rfl
