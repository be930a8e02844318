set_option maxRecDepth 20000 in
theorem tX6_build_0 {r : Option eV} {w9 : eW} (w : eW) (hB : HB w) (hb : w 13 4 = 0 ∨ w 13 4 = 1) (k1 : (w 13 4) = 0 → Go mX6_build 74 [(0, eR 13), (1, (0, 0)), (2, (0, 1)), (3, (0, (eFill (eU (eU w 13 4 1) 13 3 0) 15 560 (-2)) 2 1)), (4, (0, 0))] [] (eFill (eU (eU w 13 4 1) 13 3 0) 15 560 (-2)) r w9) (k2 : ¬ ((w 13 4) = 0) → r = none ∧ w9 = w) : Go mX6_build 0 [(0, eR 13)] [] w r w9 := by
  obtain ⟨⟨b1, b2, b3, b4, b5, b6⟩, b7, b8, b9⟩ := id hB
  refine go_aload_n (eD DX6_build 0 rfl) rfl rfl (go_getI (kz := 4) (eD DX6_build 1 rfl) fX6_22 (by decide) rfl rfl rfl (?_))
  by_cases h1 : (w 13 4) = 0
  · refine go_if_eqT (tgt := 8) (eD DX6_build 2 rfl) rfl (show eI (w 13 4) from by omega) h1 ?_
    refine go_aload_n (eD DX6_build 4 rfl) rfl rfl (go_iconst (eD DX6_build 5 rfl) (go_putZ (kz := 4) (eD DX6_build 6 rfl) fX6_22 (by decide) rfl rfl (fun q h => by cases h; exact ⟨rfl, rfl⟩) rfl (by decide) (go_aload_n (eD DX6_build 7 rfl) rfl rfl (go_iconst (eD DX6_build 8 rfl) (go_putI (kz := 3) (eD DX6_build 9 rfl) fX6_18 (by decide) rfl rfl (fun q h => by cases h; exact ⟨rfl, rfl⟩) rfl (go_aload_n (eD DX6_build 10 rfl) rfl rfl (go_getR (t := 15) (eD DX6_build 11 rfl) fX6_15 (by decide) rfl ⟨rfl, rfl⟩ (go_bipush (eD DX6_build 12 rfl) (by decide) (go_callS [eR 15, (0, (-2))] (eD DX6_build 13 rfl) ⟨eMem 3 0 rfl rfl, sJ7_fill_53178⟩ ⟨Nat.le_of_ble_eq_true rfl, Nat.le_of_ble_eq_true rfl⟩ rfl rfl (Nat.le_of_ble_eq_true rfl) (y_J7_fill (n := 560) (by decide) rfl (eU (eU w 13 4 1) 13 3 0) (-2)) (go_iconst (eD DX6_build 14 rfl) (go_istore_n (eD DX6_build 15 rfl) rfl (by decide) (go_iload_n (eD DX6_build 16 rfl) rfl rfl (go_iconst (eD DX6_build 17 rfl) (go_icmp_geF (tgt := 100) (eD DX6_build 18 rfl) rfl (by decide) (by decide) (Int.not_le.mpr (show (0 : Int) < 4 from by decide)) (?_)))))))))))))))
    refine go_iload_n (eD DX6_build 19 rfl) rfl rfl (go_if_eqT (tgt := 43) (eD DX6_build 20 rfl) rfl (by decide) (show (0 : Int) = 0 from by decide) (?_))
    refine go_iconst (eD DX6_build 24 rfl) (go_goto (tgt := 48) (eD DX6_build 25 rfl) rfl (go_istore_n (eD DX6_build 27 rfl) rfl (by decide) (go_iload_n (eD DX6_build 28 rfl) rfl rfl (go_if_eqF (tgt := 63) (eD DX6_build 29 rfl) rfl (by decide) (show ¬ ((1 : Int) = 0) from by decide) (?_)))))
    exact go_aload_n (eD DX6_build 30 rfl) rfl rfl (go_getR (t := 2) (eD DX6_build 31 rfl) fX6_26 (by decide) rfl ⟨rfl, rfl⟩ (go_getI (kz := 1) (eD DX6_build 32 rfl) fX6_36 (by decide) rfl rfl rfl (go_goto (tgt := 70) (eD DX6_build 33 rfl) rfl (go_istore_n (eD DX6_build 37 rfl) rfl (by decide) (go_iconst (eD DX6_build 38 rfl) (go_istore (eD DX6_build 39 rfl) (by decide) (Go.pick [4, 3, 2, 1, 0] rfl (k1 h1))))))))
  · refine go_if_eqF (tgt := 8) (eD DX6_build 2 rfl) rfl (show eI (w 13 4) from by omega) h1 ?_
    rw [(k2 h1).1, (k2 h1).2]
    exact go_vret (eD DX6_build 3 rfl) rfl
set_option maxRecDepth 20000 in
theorem tX6_build0_74 {r : Option eV} {w9 : eW} (w : eW) (lanes lane : Int) {wl : eW} (hB : HB w) (hl : 0 ≤ lane ∧ lane ≤ lanes ∧ lanes ≤ 14) (hcal : lane < lanes → Cal mX6_buildLane [eR 13, (0, 0), (0, lane), (0, 1)] w none wl) (k1 : lane < lanes → Go mX6_build 74 [(0, eR 13), (1, (0, 0)), (2, (0, 1)), (3, (0, lanes)), (4, (0, lane + 1))] [] wl r w9) (k2 : ¬ (lane < lanes) → Go mX6_build 74 [(0, eR 13), (1, (0, 0 + 1)), (2, (0, 0)), (3, (0, w 2 0)), (4, (0, 0))] [] w r w9) : Go mX6_build 74 [(0, eR 13), (1, (0, 0)), (2, (0, 1)), (3, (0, lanes)), (4, (0, lane))] [] w r w9 := by
  obtain ⟨⟨b1, b2, b3, b4, b5, b6⟩, b7, b8, b9⟩ := id hB
  refine go_iload (eD DX6_build 40 rfl) rfl (go_iload_n (eD DX6_build 41 rfl) rfl rfl (?_))
  by_cases h1 : lane < lanes
  · refine go_icmp_geF (tgt := 94) (eD DX6_build 42 rfl) rfl (by omega) (by omega) (Int.not_le.mpr h1) ?_
    exact go_aload_n (eD DX6_build 43 rfl) rfl rfl (go_iload_n (eD DX6_build 44 rfl) rfl rfl (go_iload (eD DX6_build 45 rfl) rfl (go_iload_n (eD DX6_build 46 rfl) rfl rfl (go_callV (ci := 6) [(0, 0), (0, lane), (0, 1)] (eD DX6_build 47 rfl) ⟨eMem 3 1 rfl rfl, sX6_buildLane⟩ ⟨Nat.le_of_ble_eq_true rfl, Nat.le_of_ble_eq_true rfl⟩ (by decide) ⟨rfl, by decide, _, rfl, rfl⟩ rfl rfl (Nat.le_of_ble_eq_true rfl) (hcal h1) (go_iinc (eD DX6_build 48 rfl) rfl (by decide) (go_goto (tgt := 74) (eD DX6_build 49 rfl) rfl (Go.pick [1, 2, 3, 4, 0] rfl (k1 h1))))))))
  · refine go_icmp_geT (tgt := 94) (eD DX6_build 42 rfl) rfl (by omega) (by omega) (Int.not_lt.mp h1) ?_
    refine go_iinc (eD DX6_build 50 rfl) rfl (by decide) (go_goto (tgt := 29) (eD DX6_build 51 rfl) rfl (go_iload_n (eD DX6_build 16 rfl) rfl rfl (go_iconst (eD DX6_build 17 rfl) (go_icmp_geF (tgt := 100) (eD DX6_build 18 rfl) rfl (show eI (0 + 1) from by decide) (by decide) (Int.not_le.mpr (show ((0 + 1) : Int) < 4 from by decide)) (?_)))))
    refine go_iload_n (eD DX6_build 19 rfl) rfl rfl (go_if_eqF (tgt := 43) (eD DX6_build 20 rfl) rfl (show eI (0 + 1) from by decide) (show ¬ (((0 + 1) : Int) = 0) from by decide) (?_))
    refine go_iload_n (eD DX6_build 21 rfl) rfl rfl (go_iconst (eD DX6_build 22 rfl) (go_icmp_neT (tgt := 47) (eD DX6_build 23 rfl) rfl (show eI (0 + 1) from by decide) (by decide) (show ¬ (((0 + 1) : Int) = 2) from by decide) (?_)))
    refine go_iconst (eD DX6_build 26 rfl) (go_istore_n (eD DX6_build 27 rfl) rfl (by decide) (go_iload_n (eD DX6_build 28 rfl) rfl rfl (go_if_eqT (tgt := 63) (eD DX6_build 29 rfl) rfl (by decide) (show (0 : Int) = 0 from by decide) (?_))))
    exact go_aload_n (eD DX6_build 34 rfl) rfl rfl (go_getR (t := 2) (eD DX6_build 35 rfl) fX6_26 (by decide) rfl ⟨rfl, rfl⟩ (go_getI (kz := 0) (eD DX6_build 36 rfl) fX6_41 (by decide) rfl rfl rfl (go_istore_n (eD DX6_build 37 rfl) rfl (by decide) (go_iconst (eD DX6_build 38 rfl) (go_istore (eD DX6_build 39 rfl) (by decide) (Go.pick [4, 3, 2, 1, 0] rfl (k2 h1)))))))
set_option maxRecDepth 20000 in
theorem tX6_build1_74 {r : Option eV} {w9 : eW} (w : eW) (lanes lane : Int) {wl : eW} (hB : HB w) (hl : 0 ≤ lane ∧ lane ≤ lanes ∧ lanes ≤ 14) (hcal : lane < lanes → Cal mX6_buildLane [eR 13, (0, 1), (0, lane), (0, 0)] w none wl) (k1 : lane < lanes → Go mX6_build 74 [(0, eR 13), (1, (0, 1)), (2, (0, 0)), (3, (0, lanes)), (4, (0, lane + 1))] [] wl r w9) (k2 : ¬ (lane < lanes) → Go mX6_build 74 [(0, eR 13), (1, (0, 1 + 1)), (2, (0, 1)), (3, (0, w 2 1)), (4, (0, 0))] [] w r w9) : Go mX6_build 74 [(0, eR 13), (1, (0, 1)), (2, (0, 0)), (3, (0, lanes)), (4, (0, lane))] [] w r w9 := by
  obtain ⟨⟨b1, b2, b3, b4, b5, b6⟩, b7, b8, b9⟩ := id hB
  refine go_iload (eD DX6_build 40 rfl) rfl (go_iload_n (eD DX6_build 41 rfl) rfl rfl (?_))
  by_cases h1 : lane < lanes
  · refine go_icmp_geF (tgt := 94) (eD DX6_build 42 rfl) rfl (by omega) (by omega) (Int.not_le.mpr h1) ?_
    exact go_aload_n (eD DX6_build 43 rfl) rfl rfl (go_iload_n (eD DX6_build 44 rfl) rfl rfl (go_iload (eD DX6_build 45 rfl) rfl (go_iload_n (eD DX6_build 46 rfl) rfl rfl (go_callV (ci := 6) [(0, 1), (0, lane), (0, 0)] (eD DX6_build 47 rfl) ⟨eMem 3 1 rfl rfl, sX6_buildLane⟩ ⟨Nat.le_of_ble_eq_true rfl, Nat.le_of_ble_eq_true rfl⟩ (by decide) ⟨rfl, by decide, _, rfl, rfl⟩ rfl rfl (Nat.le_of_ble_eq_true rfl) (hcal h1) (go_iinc (eD DX6_build 48 rfl) rfl (by decide) (go_goto (tgt := 74) (eD DX6_build 49 rfl) rfl (Go.pick [1, 2, 3, 4, 0] rfl (k1 h1))))))))
  · refine go_icmp_geT (tgt := 94) (eD DX6_build 42 rfl) rfl (by omega) (by omega) (Int.not_lt.mp h1) ?_
    refine go_iinc (eD DX6_build 50 rfl) rfl (by decide) (go_goto (tgt := 29) (eD DX6_build 51 rfl) rfl (go_iload_n (eD DX6_build 16 rfl) rfl rfl (go_iconst (eD DX6_build 17 rfl) (go_icmp_geF (tgt := 100) (eD DX6_build 18 rfl) rfl (show eI (1 + 1) from by decide) (by decide) (Int.not_le.mpr (show ((1 + 1) : Int) < 4 from by decide)) (?_)))))
    refine go_iload_n (eD DX6_build 19 rfl) rfl rfl (go_if_eqF (tgt := 43) (eD DX6_build 20 rfl) rfl (show eI (1 + 1) from by decide) (show ¬ (((1 + 1) : Int) = 0) from by decide) (?_))
    refine go_iload_n (eD DX6_build 21 rfl) rfl rfl (go_iconst (eD DX6_build 22 rfl) (go_icmp_neF (tgt := 47) (eD DX6_build 23 rfl) rfl (show eI (1 + 1) from by decide) (by decide) (not_not_intro (show ((1 + 1) : Int) = 2 from by decide)) (?_)))
    refine go_iconst (eD DX6_build 24 rfl) (go_goto (tgt := 48) (eD DX6_build 25 rfl) rfl (go_istore_n (eD DX6_build 27 rfl) rfl (by decide) (go_iload_n (eD DX6_build 28 rfl) rfl rfl (go_if_eqF (tgt := 63) (eD DX6_build 29 rfl) rfl (by decide) (show ¬ ((1 : Int) = 0) from by decide) (?_)))))
    exact go_aload_n (eD DX6_build 30 rfl) rfl rfl (go_getR (t := 2) (eD DX6_build 31 rfl) fX6_26 (by decide) rfl ⟨rfl, rfl⟩ (go_getI (kz := 1) (eD DX6_build 32 rfl) fX6_36 (by decide) rfl rfl rfl (go_goto (tgt := 70) (eD DX6_build 33 rfl) rfl (go_istore_n (eD DX6_build 37 rfl) rfl (by decide) (go_iconst (eD DX6_build 38 rfl) (go_istore (eD DX6_build 39 rfl) (by decide) (Go.pick [4, 3, 2, 1, 0] rfl (k2 h1))))))))
set_option maxRecDepth 20000 in
theorem tX6_build2_74 {r : Option eV} {w9 : eW} (w : eW) (lanes lane : Int) {wl : eW} (hB : HB w) (hl : 0 ≤ lane ∧ lane ≤ lanes ∧ lanes ≤ 14) (hcal : lane < lanes → Cal mX6_buildLane [eR 13, (0, 2), (0, lane), (0, 1)] w none wl) (k1 : lane < lanes → Go mX6_build 74 [(0, eR 13), (1, (0, 2)), (2, (0, 1)), (3, (0, lanes)), (4, (0, lane + 1))] [] wl r w9) (k2 : ¬ (lane < lanes) → Go mX6_build 74 [(0, eR 13), (1, (0, 2 + 1)), (2, (0, 0)), (3, (0, w 2 0)), (4, (0, 0))] [] w r w9) : Go mX6_build 74 [(0, eR 13), (1, (0, 2)), (2, (0, 1)), (3, (0, lanes)), (4, (0, lane))] [] w r w9 := by
  obtain ⟨⟨b1, b2, b3, b4, b5, b6⟩, b7, b8, b9⟩ := id hB
  refine go_iload (eD DX6_build 40 rfl) rfl (go_iload_n (eD DX6_build 41 rfl) rfl rfl (?_))
  by_cases h1 : lane < lanes
  · refine go_icmp_geF (tgt := 94) (eD DX6_build 42 rfl) rfl (by omega) (by omega) (Int.not_le.mpr h1) ?_
    exact go_aload_n (eD DX6_build 43 rfl) rfl rfl (go_iload_n (eD DX6_build 44 rfl) rfl rfl (go_iload (eD DX6_build 45 rfl) rfl (go_iload_n (eD DX6_build 46 rfl) rfl rfl (go_callV (ci := 6) [(0, 2), (0, lane), (0, 1)] (eD DX6_build 47 rfl) ⟨eMem 3 1 rfl rfl, sX6_buildLane⟩ ⟨Nat.le_of_ble_eq_true rfl, Nat.le_of_ble_eq_true rfl⟩ (by decide) ⟨rfl, by decide, _, rfl, rfl⟩ rfl rfl (Nat.le_of_ble_eq_true rfl) (hcal h1) (go_iinc (eD DX6_build 48 rfl) rfl (by decide) (go_goto (tgt := 74) (eD DX6_build 49 rfl) rfl (Go.pick [1, 2, 3, 4, 0] rfl (k1 h1))))))))
  · refine go_icmp_geT (tgt := 94) (eD DX6_build 42 rfl) rfl (by omega) (by omega) (Int.not_lt.mp h1) ?_
    refine go_iinc (eD DX6_build 50 rfl) rfl (by decide) (go_goto (tgt := 29) (eD DX6_build 51 rfl) rfl (go_iload_n (eD DX6_build 16 rfl) rfl rfl (go_iconst (eD DX6_build 17 rfl) (go_icmp_geF (tgt := 100) (eD DX6_build 18 rfl) rfl (show eI (2 + 1) from by decide) (by decide) (Int.not_le.mpr (show ((2 + 1) : Int) < 4 from by decide)) (?_)))))
    refine go_iload_n (eD DX6_build 19 rfl) rfl rfl (go_if_eqF (tgt := 43) (eD DX6_build 20 rfl) rfl (show eI (2 + 1) from by decide) (show ¬ (((2 + 1) : Int) = 0) from by decide) (?_))
    refine go_iload_n (eD DX6_build 21 rfl) rfl rfl (go_iconst (eD DX6_build 22 rfl) (go_icmp_neT (tgt := 47) (eD DX6_build 23 rfl) rfl (show eI (2 + 1) from by decide) (by decide) (show ¬ (((2 + 1) : Int) = 2) from by decide) (?_)))
    refine go_iconst (eD DX6_build 26 rfl) (go_istore_n (eD DX6_build 27 rfl) rfl (by decide) (go_iload_n (eD DX6_build 28 rfl) rfl rfl (go_if_eqT (tgt := 63) (eD DX6_build 29 rfl) rfl (by decide) (show (0 : Int) = 0 from by decide) (?_))))
    exact go_aload_n (eD DX6_build 34 rfl) rfl rfl (go_getR (t := 2) (eD DX6_build 35 rfl) fX6_26 (by decide) rfl ⟨rfl, rfl⟩ (go_getI (kz := 0) (eD DX6_build 36 rfl) fX6_41 (by decide) rfl rfl rfl (go_istore_n (eD DX6_build 37 rfl) rfl (by decide) (go_iconst (eD DX6_build 38 rfl) (go_istore (eD DX6_build 39 rfl) (by decide) (Go.pick [4, 3, 2, 1, 0] rfl (k2 h1)))))))
set_option maxRecDepth 20000 in
theorem tX6_build3_74 {r : Option eV} {w9 : eW} (w : eW) (lanes lane : Int) {wl : eW} (hB : HB w) (hl : 0 ≤ lane ∧ lane ≤ lanes ∧ lanes ≤ 14) (hcal : lane < lanes → Cal mX6_buildLane [eR 13, (0, 3), (0, lane), (0, 0)] w none wl) (k1 : lane < lanes → Go mX6_build 74 [(0, eR 13), (1, (0, 3)), (2, (0, 0)), (3, (0, lanes)), (4, (0, lane + 1))] [] wl r w9) (k2 : ¬ (lane < lanes) → r = none ∧ w9 = w) : Go mX6_build 74 [(0, eR 13), (1, (0, 3)), (2, (0, 0)), (3, (0, lanes)), (4, (0, lane))] [] w r w9 := by
  obtain ⟨⟨b1, b2, b3, b4, b5, b6⟩, b7, b8, b9⟩ := id hB
  refine go_iload (eD DX6_build 40 rfl) rfl (go_iload_n (eD DX6_build 41 rfl) rfl rfl (?_))
  by_cases h1 : lane < lanes
  · refine go_icmp_geF (tgt := 94) (eD DX6_build 42 rfl) rfl (by omega) (by omega) (Int.not_le.mpr h1) ?_
    exact go_aload_n (eD DX6_build 43 rfl) rfl rfl (go_iload_n (eD DX6_build 44 rfl) rfl rfl (go_iload (eD DX6_build 45 rfl) rfl (go_iload_n (eD DX6_build 46 rfl) rfl rfl (go_callV (ci := 6) [(0, 3), (0, lane), (0, 0)] (eD DX6_build 47 rfl) ⟨eMem 3 1 rfl rfl, sX6_buildLane⟩ ⟨Nat.le_of_ble_eq_true rfl, Nat.le_of_ble_eq_true rfl⟩ (by decide) ⟨rfl, by decide, _, rfl, rfl⟩ rfl rfl (Nat.le_of_ble_eq_true rfl) (hcal h1) (go_iinc (eD DX6_build 48 rfl) rfl (by decide) (go_goto (tgt := 74) (eD DX6_build 49 rfl) rfl (Go.pick [1, 2, 3, 4, 0] rfl (k1 h1))))))))
  · refine go_icmp_geT (tgt := 94) (eD DX6_build 42 rfl) rfl (by omega) (by omega) (Int.not_lt.mp h1) ?_
    refine go_iinc (eD DX6_build 50 rfl) rfl (by decide) (go_goto (tgt := 29) (eD DX6_build 51 rfl) rfl (go_iload_n (eD DX6_build 16 rfl) rfl rfl (go_iconst (eD DX6_build 17 rfl) (go_icmp_geT (tgt := 100) (eD DX6_build 18 rfl) rfl (show eI (3 + 1) from by decide) (by decide) (Int.not_lt.mp (show ¬ (((3 + 1) : Int) < 4) from by decide)) (?_)))))
    rw [(k2 h1).1, (k2 h1).2]
    exact go_vret (eD DX6_build 52 rfl) rfl
theorem wSd_bound (g : Int → Int → Int) (side : Int) (steps : Nat) (S : eW) (m : Int) (hm : (steps : Int) + 1 ≤ 2 * m + 1) : ∀ n : Nat, S 0 0 ≤ wSd g side steps S n 0 0 ∧ wSd g side steps S n 0 0 ≤ S 0 0 + n * m := by
  intro n
  induction n with
  | zero => exact ⟨Int.le_refl _, by show S 0 0 ≤ S 0 0 + (0 : Int) * m; omega⟩
  | succ n ih =>
    rw [wSd]
    obtain ⟨h1, h2, -⟩ := wLn_bound g side n (wSd g side steps S n) steps
    rw [show ((n + 1 : Nat) : Int) * m = (n : Int) * m + m by rw [Int.natCast_add, Int.add_mul]; simp]
    split at h2 <;> omega
theorem gC_fr {S : List Nat} {w w0 : eW} (h : Fr S w w0) (hS : 2 ∉ S ∧ 3 ∉ S) : gC w0 = gC w := by
  funext x y
  unfold gC
  simp only [insC_fr h hS]
/-- the walls of the class's house -/
def wallsOf (w : eW) : eW := wAl (gC w) (w 2 0).toNat (w 2 1).toNat 4
theorem y_side0 (w : eW) (hB : HB w) (S : eW) (hc : 0 ≤ S 0 0 ∧ S 0 0 ≤ 0) (hR : RC w S) : ∃ w1, Fr [13, 14, 15] w w1 ∧ RC w1 (wSd (gC w) 0 (w 2 0).toNat S (w 2 1).toNat) ∧ ∀ (r : Option eV) (w9 : eW), Go mX6_build 74 [(0, eR 13), (1, (0, 1)), (2, (0, 0)), (3, (0, w 2 0)), (4, (0, 0))] [] w1 r w9 → Go mX6_build 74 [(0, eR 13), (1, (0, 0)), (2, (0, 1)), (3, (0, w 2 1)), (4, (0, 0))] [] w r w9 := by
  obtain ⟨⟨b1, b2, b3, b4, b5, b6⟩, b7, b8, b9⟩ := id hB
  refine loop_up (P := fun k => ∀ w0, Fr [13, 14, 15] w w0 → RC w0 (wSd (gC w) 0 (w 2 0).toNat S k.toNat) → ∃ w1, Fr [13, 14, 15] w w1 ∧ RC w1 (wSd (gC w) 0 (w 2 0).toNat S (w 2 1).toNat) ∧ ∀ (r : Option eV) (w9 : eW), Go mX6_build 74 [(0, eR 13), (1, (0, 1)), (2, (0, 0)), (3, (0, w 2 0)), (4, (0, 0))] [] w1 r w9 → Go mX6_build 74 [(0, eR 13), (1, (0, 0)), (2, (0, 1)), (3, (0, w 2 1)), (4, (0, k))] [] w0 r w9) 0 (w 2 1) ?_ ?_ 0 (by omega) (by omega) w Fr.rf hR
  · intro w0 hF hR0
    have hB0 : HB w0 := HB_fr hF hB (by decide)
    have e20 : w0 2 0 = w 2 0 := hF.at 2 (by decide) 0
    have e21 : w0 2 1 = w 2 1 := hF.at 2 (by decide) 1
    refine ⟨w0, hF, hR0, fun r w9 h => ?_⟩
    apply tX6_build0_74 (wl := w0) w0 _ _ hB0 (by omega) (fun h => absurd h (by omega))
    · intro h; omega
    · intro _
      skip
      rw [e20]; exact h
  · intro k hk1 hk2 ih w0 hF hR0
    have hB0 : HB w0 := HB_fr hF hB (by decide)
    have e20 : w0 2 0 = w 2 0 := hF.at 2 (by decide) 0
    have e21 : w0 2 1 = w 2 1 := hF.at 2 (by decide) 1
    obtain ⟨q1, q2⟩ := wSd_bound (gC w) 0 (w 2 0).toNat S 7 (by omega) k.toNat
    have hk3 : (k.toNat : Int) = k := Int.toNat_of_nonneg hk1
    rw [hk3] at q2
    have eN : (w0 2 0) = w 2 0 := e20
    have hg : gC w0 = gC w := gC_fr hF (by decide)
    obtain ⟨w1, g1, g2, g3⟩ := y_lane0 w0 hB0 k (by omega) (wSd (gC w) 0 (w 2 0).toNat S k.toNat) hR0 (by omega) (fun b h1 h2 => by
      obtain ⟨n1, n2, -⟩ := wLn_bound (gC w0) 0 k (wSd (gC w) 0 (w 2 0).toNat S k.toNat) b.toNat
      rw [Int.toNat_of_nonneg h1] at n2
      split at n2 <;> omega)
    rw [eN, hg] at g3
    obtain ⟨w2, i1, i2, i3⟩ := ih w1 (hF.tr g2) (by
      rw [show (k + 1).toNat = k.toNat + 1 by omega, wSd, hk3]
      exact g3)
    refine ⟨w2, i1, i2, fun r w9 h => ?_⟩
    apply tX6_build0_74 (wl := w1) w0 _ _ hB0 (by omega) (fun _ => g1)
    · intro _
      exact i3 r w9 h
    · intro h; omega
theorem y_side1 (w : eW) (hB : HB w) (S : eW) (hc : 0 ≤ S 0 0 ∧ S 0 0 ≤ 70) (hR : RC w S) : ∃ w1, Fr [13, 14, 15] w w1 ∧ RC w1 (wSd (gC w) 1 (w 2 1).toNat S (w 2 0).toNat) ∧ ∀ (r : Option eV) (w9 : eW), Go mX6_build 74 [(0, eR 13), (1, (0, 2)), (2, (0, 1)), (3, (0, w 2 1)), (4, (0, 0))] [] w1 r w9 → Go mX6_build 74 [(0, eR 13), (1, (0, 1)), (2, (0, 0)), (3, (0, w 2 0)), (4, (0, 0))] [] w r w9 := by
  obtain ⟨⟨b1, b2, b3, b4, b5, b6⟩, b7, b8, b9⟩ := id hB
  refine loop_up (P := fun k => ∀ w0, Fr [13, 14, 15] w w0 → RC w0 (wSd (gC w) 1 (w 2 1).toNat S k.toNat) → ∃ w1, Fr [13, 14, 15] w w1 ∧ RC w1 (wSd (gC w) 1 (w 2 1).toNat S (w 2 0).toNat) ∧ ∀ (r : Option eV) (w9 : eW), Go mX6_build 74 [(0, eR 13), (1, (0, 2)), (2, (0, 1)), (3, (0, w 2 1)), (4, (0, 0))] [] w1 r w9 → Go mX6_build 74 [(0, eR 13), (1, (0, 1)), (2, (0, 0)), (3, (0, w 2 0)), (4, (0, k))] [] w0 r w9) 0 (w 2 0) ?_ ?_ 0 (by omega) (by omega) w Fr.rf hR
  · intro w0 hF hR0
    have hB0 : HB w0 := HB_fr hF hB (by decide)
    have e20 : w0 2 0 = w 2 0 := hF.at 2 (by decide) 0
    have e21 : w0 2 1 = w 2 1 := hF.at 2 (by decide) 1
    refine ⟨w0, hF, hR0, fun r w9 h => ?_⟩
    apply tX6_build1_74 (wl := w0) w0 _ _ hB0 (by omega) (fun h => absurd h (by omega))
    · intro h; omega
    · intro _
      skip
      rw [e21]; exact h
  · intro k hk1 hk2 ih w0 hF hR0
    have hB0 : HB w0 := HB_fr hF hB (by decide)
    have e20 : w0 2 0 = w 2 0 := hF.at 2 (by decide) 0
    have e21 : w0 2 1 = w 2 1 := hF.at 2 (by decide) 1
    obtain ⟨q1, q2⟩ := wSd_bound (gC w) 1 (w 2 1).toNat S 5 (by omega) k.toNat
    have hk3 : (k.toNat : Int) = k := Int.toNat_of_nonneg hk1
    rw [hk3] at q2
    have eN : (w0 2 1) = w 2 1 := e21
    have hg : gC w0 = gC w := gC_fr hF (by decide)
    obtain ⟨w1, g1, g2, g3⟩ := y_lane1 w0 hB0 k (by omega) (wSd (gC w) 1 (w 2 1).toNat S k.toNat) hR0 (by omega) (fun b h1 h2 => by
      obtain ⟨n1, n2, -⟩ := wLn_bound (gC w0) 1 k (wSd (gC w) 1 (w 2 1).toNat S k.toNat) b.toNat
      rw [Int.toNat_of_nonneg h1] at n2
      split at n2 <;> omega)
    rw [eN, hg] at g3
    obtain ⟨w2, i1, i2, i3⟩ := ih w1 (hF.tr g2) (by
      rw [show (k + 1).toNat = k.toNat + 1 by omega, wSd, hk3]
      exact g3)
    refine ⟨w2, i1, i2, fun r w9 h => ?_⟩
    apply tX6_build1_74 (wl := w1) w0 _ _ hB0 (by omega) (fun _ => g1)
    · intro _
      exact i3 r w9 h
    · intro h; omega
theorem y_side2 (w : eW) (hB : HB w) (S : eW) (hc : 0 ≤ S 0 0 ∧ S 0 0 ≤ 140) (hR : RC w S) : ∃ w1, Fr [13, 14, 15] w w1 ∧ RC w1 (wSd (gC w) 2 (w 2 0).toNat S (w 2 1).toNat) ∧ ∀ (r : Option eV) (w9 : eW), Go mX6_build 74 [(0, eR 13), (1, (0, 3)), (2, (0, 0)), (3, (0, w 2 0)), (4, (0, 0))] [] w1 r w9 → Go mX6_build 74 [(0, eR 13), (1, (0, 2)), (2, (0, 1)), (3, (0, w 2 1)), (4, (0, 0))] [] w r w9 := by
  obtain ⟨⟨b1, b2, b3, b4, b5, b6⟩, b7, b8, b9⟩ := id hB
  refine loop_up (P := fun k => ∀ w0, Fr [13, 14, 15] w w0 → RC w0 (wSd (gC w) 2 (w 2 0).toNat S k.toNat) → ∃ w1, Fr [13, 14, 15] w w1 ∧ RC w1 (wSd (gC w) 2 (w 2 0).toNat S (w 2 1).toNat) ∧ ∀ (r : Option eV) (w9 : eW), Go mX6_build 74 [(0, eR 13), (1, (0, 3)), (2, (0, 0)), (3, (0, w 2 0)), (4, (0, 0))] [] w1 r w9 → Go mX6_build 74 [(0, eR 13), (1, (0, 2)), (2, (0, 1)), (3, (0, w 2 1)), (4, (0, k))] [] w0 r w9) 0 (w 2 1) ?_ ?_ 0 (by omega) (by omega) w Fr.rf hR
  · intro w0 hF hR0
    have hB0 : HB w0 := HB_fr hF hB (by decide)
    have e20 : w0 2 0 = w 2 0 := hF.at 2 (by decide) 0
    have e21 : w0 2 1 = w 2 1 := hF.at 2 (by decide) 1
    refine ⟨w0, hF, hR0, fun r w9 h => ?_⟩
    apply tX6_build2_74 (wl := w0) w0 _ _ hB0 (by omega) (fun h => absurd h (by omega))
    · intro h; omega
    · intro _
      skip
      rw [e20]; exact h
  · intro k hk1 hk2 ih w0 hF hR0
    have hB0 : HB w0 := HB_fr hF hB (by decide)
    have e20 : w0 2 0 = w 2 0 := hF.at 2 (by decide) 0
    have e21 : w0 2 1 = w 2 1 := hF.at 2 (by decide) 1
    obtain ⟨q1, q2⟩ := wSd_bound (gC w) 2 (w 2 0).toNat S 7 (by omega) k.toNat
    have hk3 : (k.toNat : Int) = k := Int.toNat_of_nonneg hk1
    rw [hk3] at q2
    have eN : (w0 2 0) = w 2 0 := e20
    have hg : gC w0 = gC w := gC_fr hF (by decide)
    obtain ⟨w1, g1, g2, g3⟩ := y_lane2 w0 hB0 k (by omega) (wSd (gC w) 2 (w 2 0).toNat S k.toNat) hR0 (by omega) (fun b h1 h2 => by
      obtain ⟨n1, n2, -⟩ := wLn_bound (gC w0) 2 k (wSd (gC w) 2 (w 2 0).toNat S k.toNat) b.toNat
      rw [Int.toNat_of_nonneg h1] at n2
      split at n2 <;> omega)
    rw [eN, hg] at g3
    obtain ⟨w2, i1, i2, i3⟩ := ih w1 (hF.tr g2) (by
      rw [show (k + 1).toNat = k.toNat + 1 by omega, wSd, hk3]
      exact g3)
    refine ⟨w2, i1, i2, fun r w9 h => ?_⟩
    apply tX6_build2_74 (wl := w1) w0 _ _ hB0 (by omega) (fun _ => g1)
    · intro _
      exact i3 r w9 h
    · intro h; omega
theorem y_side3 (w : eW) (hB : HB w) (S : eW) (hc : 0 ≤ S 0 0 ∧ S 0 0 ≤ 210) (hR : RC w S) : ∃ w1, Fr [13, 14, 15] w w1 ∧ RC w1 (wSd (gC w) 3 (w 2 1).toNat S (w 2 0).toNat) ∧ ∀ (r : Option eV) (w9 : eW), r = none ∧ w9 = w1 → Go mX6_build 74 [(0, eR 13), (1, (0, 3)), (2, (0, 0)), (3, (0, w 2 0)), (4, (0, 0))] [] w r w9 := by
  obtain ⟨⟨b1, b2, b3, b4, b5, b6⟩, b7, b8, b9⟩ := id hB
  refine loop_up (P := fun k => ∀ w0, Fr [13, 14, 15] w w0 → RC w0 (wSd (gC w) 3 (w 2 1).toNat S k.toNat) → ∃ w1, Fr [13, 14, 15] w w1 ∧ RC w1 (wSd (gC w) 3 (w 2 1).toNat S (w 2 0).toNat) ∧ ∀ (r : Option eV) (w9 : eW), r = none ∧ w9 = w1 → Go mX6_build 74 [(0, eR 13), (1, (0, 3)), (2, (0, 0)), (3, (0, w 2 0)), (4, (0, k))] [] w0 r w9) 0 (w 2 0) ?_ ?_ 0 (by omega) (by omega) w Fr.rf hR
  · intro w0 hF hR0
    have hB0 : HB w0 := HB_fr hF hB (by decide)
    have e20 : w0 2 0 = w 2 0 := hF.at 2 (by decide) 0
    have e21 : w0 2 1 = w 2 1 := hF.at 2 (by decide) 1
    refine ⟨w0, hF, hR0, fun r w9 h => ?_⟩
    apply tX6_build3_74 (wl := w0) w0 _ _ hB0 (by omega) (fun h => absurd h (by omega))
    · intro h; omega
    · intro _
      skip
      exact h
  · intro k hk1 hk2 ih w0 hF hR0
    have hB0 : HB w0 := HB_fr hF hB (by decide)
    have e20 : w0 2 0 = w 2 0 := hF.at 2 (by decide) 0
    have e21 : w0 2 1 = w 2 1 := hF.at 2 (by decide) 1
    obtain ⟨q1, q2⟩ := wSd_bound (gC w) 3 (w 2 1).toNat S 5 (by omega) k.toNat
    have hk3 : (k.toNat : Int) = k := Int.toNat_of_nonneg hk1
    rw [hk3] at q2
    have eN : (w0 2 1) = w 2 1 := e21
    have hg : gC w0 = gC w := gC_fr hF (by decide)
    obtain ⟨w1, g1, g2, g3⟩ := y_lane3 w0 hB0 k (by omega) (wSd (gC w) 3 (w 2 1).toNat S k.toNat) hR0 (by omega) (fun b h1 h2 => by
      obtain ⟨n1, n2, -⟩ := wLn_bound (gC w0) 3 k (wSd (gC w) 3 (w 2 1).toNat S k.toNat) b.toNat
      rw [Int.toNat_of_nonneg h1] at n2
      split at n2 <;> omega)
    rw [eN, hg] at g3
    obtain ⟨w2, i1, i2, i3⟩ := ih w1 (hF.tr g2) (by
      rw [show (k + 1).toNat = k.toNat + 1 by omega, wSd, hk3]
      exact g3)
    refine ⟨w2, i1, i2, fun r w9 h => ?_⟩
    apply tX6_build3_74 (wl := w1) w0 _ _ hB0 (by omega) (fun _ => g1)
    · intro _
      exact i3 r w9 h
    · intro h; omega
theorem RC_start (w : eW) : RC (eFill (eU (eU w 13 4 1) 13 3 0) 15 560 (-2)) wS0 := by
  refine ⟨rfl, rfl, fun i h1 h2 => absurd h2 (by show ¬ i < 0; omega), fun p h1 h2 => ?_⟩
  rw [eFill_at, if_pos (by omega)]
  rfl
/-- build: the walls of the house stand -/
theorem y_X6_build (w : eW) (hB : HB w) (hb : w 13 4 = 0 ∨ w 13 4 = 1) (hc : w 13 4 = 1 → RC w (wallsOf w)) : ∃ w1, Cal mX6_build [eR 13] w none w1 ∧ Fr [13, 14, 15] w w1 ∧ RC w1 (wallsOf w) := by
  obtain ⟨⟨b1, b2, b3, b4, b5, b6⟩, b7, b8, b9⟩ := id hB
  by_cases h0 : w 13 4 = 0
  · have hF0 : Fr [13, 14, 15] w (eFill (eU (eU w 13 4 1) 13 3 0) 15 560 (-2)) := fun k hk => by
      simp only [List.mem_cons, List.not_mem_nil, or_false, not_or] at hk
      rw [eFill_ne hk.2.2, eU_ne hk.1, eU_ne hk.1]
    have hB0 : HB (eFill (eU (eU w 13 4 1) 13 3 0) 15 560 (-2)) := HB_fr hF0 hB (by decide)
    have n0 : wS0 0 0 = 0 := rfl
    obtain ⟨w1, f1, r1, g1⟩ := y_side0 _ hB0 wS0 (by omega) (RC_start w)
    have c1 := wSd_bound (gC (eFill (eU (eU w 13 4 1) 13 3 0) 15 560 (-2))) 0 (eFill (eU (eU w 13 4 1) 13 3 0) 15 560 (-2) 2 0).toNat wS0 7 (by show ((w 2 0).toNat : Int) + 1 ≤ _; omega) (eFill (eU (eU w 13 4 1) 13 3 0) 15 560 (-2) 2 1).toNat
    rw [gC_fr hF0 (by decide), show eFill (eU (eU w 13 4 1) 13 3 0) 15 560 (-2) 2 0 = w 2 0 from rfl, show eFill (eU (eU w 13 4 1) 13 3 0) 15 560 (-2) 2 1 = w 2 1 from rfl] at *
    have hF1 := hF0.tr f1
    have hB1 : HB w1 := HB_fr hF1 hB (by decide)
    have a20 : w1 2 0 = w 2 0 := hF1.at 2 (by decide) 0
    have a21 : w1 2 1 = w 2 1 := hF1.at 2 (by decide) 1
    obtain ⟨w2, f2, r2, g2⟩ := y_side1 w1 hB1 (wSd (gC w) 0 (w 2 0).toNat wS0 (w 2 1).toNat) (by omega) r1
    rw [gC_fr hF1 (by decide), a20, a21] at *
    have c2 := wSd_bound (gC w) 1 (w 2 1).toNat (wSd (gC w) 0 (w 2 0).toNat wS0 (w 2 1).toNat) 5 (by omega) (w 2 0).toNat
    have hF2 := hF1.tr f2
    have hB2 : HB w2 := HB_fr hF2 hB (by decide)
    have d20 : w2 2 0 = w 2 0 := hF2.at 2 (by decide) 0
    have d21 : w2 2 1 = w 2 1 := hF2.at 2 (by decide) 1
    obtain ⟨w3, f3, r3, g3⟩ := y_side2 w2 hB2 (wSd (gC w) 1 (w 2 1).toNat (wSd (gC w) 0 (w 2 0).toNat wS0 (w 2 1).toNat) (w 2 0).toNat) (by omega) r2
    rw [gC_fr hF2 (by decide), d20, d21] at *
    have c3 := wSd_bound (gC w) 2 (w 2 0).toNat (wSd (gC w) 1 (w 2 1).toNat (wSd (gC w) 0 (w 2 0).toNat wS0 (w 2 1).toNat) (w 2 0).toNat) 7 (by omega) (w 2 1).toNat
    have hF3 := hF2.tr f3
    have hB3 : HB w3 := HB_fr hF3 hB (by decide)
    have e20 : w3 2 0 = w 2 0 := hF3.at 2 (by decide) 0
    have e21 : w3 2 1 = w 2 1 := hF3.at 2 (by decide) 1
    obtain ⟨w4, f4, r4, g4⟩ := y_side3 w3 hB3 (wSd (gC w) 2 (w 2 0).toNat (wSd (gC w) 1 (w 2 1).toNat (wSd (gC w) 0 (w 2 0).toNat wS0 (w 2 1).toNat) (w 2 0).toNat) (w 2 1).toNat) (by omega) r3
    rw [gC_fr hF3 (by decide), e20, e21] at *
    refine ⟨w4, Cal.of (by decide +kernel) (Nat.le_of_ble_eq_true rfl) ?_, hF3.tr f4, r4⟩
    apply tX6_build_0 w hB hb
    · intro _
      exact g1 _ _ (g2 _ _ (g3 _ _ (g4 _ _ ⟨rfl, rfl⟩)))
    · intro h; exact absurd h0 h
  · refine ⟨w, Cal.of (by decide +kernel) (Nat.le_of_ble_eq_true rfl) ?_, Fr.rf, hc (by omega)⟩
    apply tX6_build_0 w hB hb
    all_goals (intros; first | contradiction | exact ⟨rfl, rfl⟩)
