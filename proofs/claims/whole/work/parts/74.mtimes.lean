set_option maxHeartbeats 4000000 in
set_option maxRecDepth 20000 in
theorem tX8_comesTime_0 {r : Option eV} {w9 : eW} (w : eW) (v : Int) (k1 : Go mX8_comesTime 5 [(0, eR 33), (1, (0, v)), (2, (0, w 33 46))] [] w r w9) : Go mX8_comesTime 0 [(0, eR 33), (1, (0, v))] [] w r w9 := by
  exact go_aload_n (eD DX8_comesTime 0 rfl) rfl rfl (go_getI (kz := 46) (eD DX8_comesTime 1 rfl) fX8_303 (by decide) rfl rfl rfl (go_istore_n (eD DX8_comesTime 2 rfl) rfl (by decide) (Go.pick [1, 2, 0] rfl (k1))))
set_option maxHeartbeats 4000000 in
set_option maxRecDepth 20000 in
theorem tX8_comesTime_5 {r : Option eV} {w9 : eW} (w : eW) (v k : Int) (hv : eI v) (hn : 0 ≤ w 33 46 ∧ w 33 46 ≤ 31) (hk : 0 ≤ k ∧ k ≤ w 33 46) (hl : 0 < k → eI (w 53 (k - 1))) (k1 : 0 < k → (w 53 (k - 1)) < v → Go mX8_comesTime 27 [(0, eR 33), (1, (0, v)), (2, (0, k))] [] w r w9) (k2 : 0 < k → ¬ ((w 53 (k - 1)) < v) → Go mX8_comesTime 5 [(0, eR 33), (1, (0, v)), (2, (0, k + (-1)))] [] w r w9) (k3 : ¬ (0 < k) → Go mX8_comesTime 27 [(0, eR 33), (1, (0, v)), (2, (0, k))] [] w r w9) : Go mX8_comesTime 5 [(0, eR 33), (1, (0, v)), (2, (0, k))] [] w r w9 := by
  refine go_iload_n (eD DX8_comesTime 3 rfl) rfl rfl (?_)
  by_cases h1 : 0 < k
  · refine go_if_leF (tgt := 27) (eD DX8_comesTime 4 rfl) rfl (by omega) (Int.not_le.mpr h1) ?_
    refine go_aload_n (eD DX8_comesTime 5 rfl) rfl rfl (go_getR (t := 53) (eD DX8_comesTime 6 rfl) fX8_71 (by decide) rfl ⟨rfl, rfl⟩ (go_iload_n (eD DX8_comesTime 7 rfl) rfl rfl (go_iconst (eD DX8_comesTime 8 rfl) (go_isub (eD DX8_comesTime 9 rfl) (go_iald (n := 32) (eD DX8_comesTime 10 rfl) (by decide) rfl (by omega) (go_iload_n (eD DX8_comesTime 11 rfl) rfl rfl (?_)))))))
    by_cases h2 : (w 53 (k - 1)) < v
    · refine go_icmp_ltT (tgt := 27) (eD DX8_comesTime 12 rfl) rfl (show eI (w 53 (k - 1)) from by omega) (by omega) h2 ?_
      exact Go.pick [0, 1, 2] rfl (k1 h1 h2)
    · refine go_icmp_ltF (tgt := 27) (eD DX8_comesTime 12 rfl) rfl (show eI (w 53 (k - 1)) from by omega) (by omega) h2 ?_
      exact go_iinc (eD DX8_comesTime 13 rfl) rfl (by decide) (go_goto (tgt := 5) (eD DX8_comesTime 14 rfl) rfl (Go.pick [1, 2, 0] rfl (k2 h1 h2)))
  · refine go_if_leT (tgt := 27) (eD DX8_comesTime 4 rfl) rfl (by omega) (Int.not_lt.mp h1) ?_
    exact Go.pick [0, 1, 2] rfl (k3 h1)
set_option maxHeartbeats 4000000 in
set_option maxRecDepth 20000 in
theorem tX8_comesTime_27 {r : Option eV} {w9 : eW} (w : eW) (v k : Int) (hv : eI v) (hn : 0 ≤ w 33 46 ∧ w 33 46 ≤ 31) (hk : 0 ≤ k ∧ k ≤ w 33 46) (hl : k < w 33 46 → eI (w 53 k)) (k1 : k < (w 33 46) → (w 53 k) = v → r = none ∧ w9 = w) (k2 : k < (w 33 46) → ¬ ((w 53 k) = v) → Go mX8_comesTime 51 [(0, eR 33), (1, (0, v)), (2, (0, k)), (3, (0, w 33 46))] [] w r w9) (k3 : ¬ (k < (w 33 46)) → Go mX8_comesTime 51 [(0, eR 33), (1, (0, v)), (2, (0, k)), (3, (0, w 33 46))] [] w r w9) : Go mX8_comesTime 27 [(0, eR 33), (1, (0, v)), (2, (0, k))] [] w r w9 := by
  refine go_iload_n (eD DX8_comesTime 15 rfl) rfl rfl (go_aload_n (eD DX8_comesTime 16 rfl) rfl rfl (go_getI (kz := 46) (eD DX8_comesTime 17 rfl) fX8_303 (by decide) rfl rfl rfl (?_)))
  by_cases h1 : k < (w 33 46)
  · refine go_icmp_geF (tgt := 46) (eD DX8_comesTime 18 rfl) rfl (by omega) (show eI (w 33 46) from by omega) (Int.not_le.mpr h1) ?_
    refine go_aload_n (eD DX8_comesTime 19 rfl) rfl rfl (go_getR (t := 53) (eD DX8_comesTime 20 rfl) fX8_71 (by decide) rfl ⟨rfl, rfl⟩ (go_iload_n (eD DX8_comesTime 21 rfl) rfl rfl (go_iald (n := 32) (eD DX8_comesTime 22 rfl) (by decide) rfl (by omega) (go_iload_n (eD DX8_comesTime 23 rfl) rfl rfl (?_)))))
    by_cases h2 : (w 53 k) = v
    · refine go_icmp_neF (tgt := 46) (eD DX8_comesTime 24 rfl) rfl (show eI (w 53 k) from by omega) (by omega) (not_not_intro h2) ?_
      rw [(k1 h1 h2).1, (k1 h1 h2).2]
      exact go_vret (eD DX8_comesTime 25 rfl) rfl
    · refine go_icmp_neT (tgt := 46) (eD DX8_comesTime 24 rfl) rfl (show eI (w 53 k) from by omega) (by omega) h2 ?_
      exact go_aload_n (eD DX8_comesTime 26 rfl) rfl rfl (go_getI (kz := 46) (eD DX8_comesTime 27 rfl) fX8_303 (by decide) rfl rfl rfl (go_istore_n (eD DX8_comesTime 28 rfl) rfl (by decide) (Go.pick [1, 2, 3, 0] rfl (k2 h1 h2))))
  · refine go_icmp_geT (tgt := 46) (eD DX8_comesTime 18 rfl) rfl (by omega) (show eI (w 33 46) from by omega) (Int.not_lt.mp h1) ?_
    exact go_aload_n (eD DX8_comesTime 26 rfl) rfl rfl (go_getI (kz := 46) (eD DX8_comesTime 27 rfl) fX8_303 (by decide) rfl rfl rfl (go_istore_n (eD DX8_comesTime 28 rfl) rfl (by decide) (Go.pick [1, 2, 3, 0] rfl (k3 h1))))
set_option maxHeartbeats 4000000 in
set_option maxRecDepth 20000 in
theorem tX8_comesTime_51 {r : Option eV} {w9 : eW} (w : eW) (v k i : Int) (hn : 0 ≤ w 33 46 ∧ w 33 46 ≤ 31) (hk : 0 ≤ k ∧ k ≤ i) (hi : i ≤ w 33 46) (k1 : k < i → Go mX8_comesTime 51 [(0, eR 33), (1, (0, v)), (2, (0, k)), (3, (0, i + (-1)))] [] (eU w 53 i (w 53 (i - 1))) r w9) (k2 : ¬ (k < i) → r = none ∧ w9 = (eU (eU w 53 k v) 33 46 ((w 33 46) + 1))) : Go mX8_comesTime 51 [(0, eR 33), (1, (0, v)), (2, (0, k)), (3, (0, i))] [] w r w9 := by
  refine go_iload_n (eD DX8_comesTime 29 rfl) rfl rfl (go_iload_n (eD DX8_comesTime 30 rfl) rfl rfl (?_))
  by_cases h1 : k < i
  · refine go_icmp_leF (tgt := 76) (eD DX8_comesTime 31 rfl) rfl (by omega) (by omega) (Int.not_le.mpr h1) ?_
    exact go_aload_n (eD DX8_comesTime 32 rfl) rfl rfl (go_getR (t := 53) (eD DX8_comesTime 33 rfl) fX8_71 (by decide) rfl ⟨rfl, rfl⟩ (go_iload_n (eD DX8_comesTime 34 rfl) rfl rfl (go_aload_n (eD DX8_comesTime 35 rfl) rfl rfl (go_getR (t := 53) (eD DX8_comesTime 36 rfl) fX8_71 (by decide) rfl ⟨rfl, rfl⟩ (go_iload_n (eD DX8_comesTime 37 rfl) rfl rfl (go_iconst (eD DX8_comesTime 38 rfl) (go_isub (eD DX8_comesTime 39 rfl) (go_iald (n := 32) (eD DX8_comesTime 40 rfl) (by decide) rfl (by omega) (go_iast (n := 32) (eD DX8_comesTime 41 rfl) (by decide) rfl (by omega) (go_iinc (eD DX8_comesTime 42 rfl) rfl (by decide) (go_goto (tgt := 51) (eD DX8_comesTime 43 rfl) rfl (Go.pick [1, 2, 3, 0] rfl (k1 h1)))))))))))))
  · refine go_icmp_leT (tgt := 76) (eD DX8_comesTime 31 rfl) rfl (by omega) (by omega) (Int.not_lt.mp h1) ?_
    rw [(k2 h1).1, (k2 h1).2]
    exact go_aload_n (eD DX8_comesTime 44 rfl) rfl rfl (go_getR (t := 53) (eD DX8_comesTime 45 rfl) fX8_71 (by decide) rfl ⟨rfl, rfl⟩ (go_iload_n (eD DX8_comesTime 46 rfl) rfl rfl (go_iload_n (eD DX8_comesTime 47 rfl) rfl rfl (go_iast (n := 32) (eD DX8_comesTime 48 rfl) (by decide) rfl (by omega) (go_aload_n (eD DX8_comesTime 49 rfl) rfl rfl (go_dup (eD DX8_comesTime 50 rfl) (by decide) (go_getI (kz := 46) (eD DX8_comesTime 51 rfl) fX8_303 (by decide) rfl rfl rfl (go_iconst (eD DX8_comesTime 52 rfl) (go_iadd (eD DX8_comesTime 53 rfl) (go_putI (kz := 46) (eD DX8_comesTime 54 rfl) fX8_303 (by decide) rfl rfl (fun q h => by cases h; exact ⟨rfl, rfl⟩) rfl (go_vret (eD DX8_comesTime 55 rfl) rfl)))))))))))
set_option maxHeartbeats 4000000 in
set_option maxRecDepth 20000 in
theorem tX8_laysTimes_0 {r : Option eV} {w9 : eW} (w : eW) (k1 : Go mX8_laysTimes 38 [(0, eR 33), (1, (0, (w 38 141) + (w 38 143))), (2, (0, (w 38 140) + (w 38 142))), (3, (0, 1))] [] (eU (eU w 33 47 (((w 38 141) + (w 38 143)) * ((w 38 140) + (w 38 142)))) 33 46 0) r w9) : Go mX8_laysTimes 0 [(0, eR 33)] [] w r w9 := by
  exact go_aload_n (eD DX8_laysTimes 0 rfl) rfl rfl (go_iconst (eD DX8_laysTimes 1 rfl) (go_callV (ci := 8) [(0, 1)] (eD DX8_laysTimes 2 rfl) ⟨eMem 6 97 rfl rfl, sX8_speedOf⟩ ⟨Nat.le_of_ble_eq_true rfl, Nat.le_of_ble_eq_true rfl⟩ (by decide) ⟨rfl, by decide, _, rfl, rfl⟩ rfl rfl (Nat.le_of_ble_eq_true rfl) (y_X8_speed1 w) (go_aload_n (eD DX8_laysTimes 3 rfl) rfl rfl (go_iconst (eD DX8_laysTimes 4 rfl) (go_callV (ci := 8) [(0, 3)] (eD DX8_laysTimes 5 rfl) ⟨eMem 6 97 rfl rfl, sX8_speedOf⟩ ⟨Nat.le_of_ble_eq_true rfl, Nat.le_of_ble_eq_true rfl⟩ (by decide) ⟨rfl, by decide, _, rfl, rfl⟩ rfl rfl (Nat.le_of_ble_eq_true rfl) (y_X8_speed3 w) (go_iadd (eD DX8_laysTimes 6 rfl) (go_istore_n (eD DX8_laysTimes 7 rfl) rfl (by decide) (go_aload_n (eD DX8_laysTimes 8 rfl) rfl rfl (go_iconst (eD DX8_laysTimes 9 rfl) (go_callV (ci := 8) [(0, 0)] (eD DX8_laysTimes 10 rfl) ⟨eMem 6 97 rfl rfl, sX8_speedOf⟩ ⟨Nat.le_of_ble_eq_true rfl, Nat.le_of_ble_eq_true rfl⟩ (by decide) ⟨rfl, by decide, _, rfl, rfl⟩ rfl rfl (Nat.le_of_ble_eq_true rfl) (y_X8_speed0 w) (go_aload_n (eD DX8_laysTimes 11 rfl) rfl rfl (go_iconst (eD DX8_laysTimes 12 rfl) (go_callV (ci := 8) [(0, 2)] (eD DX8_laysTimes 13 rfl) ⟨eMem 6 97 rfl rfl, sX8_speedOf⟩ ⟨Nat.le_of_ble_eq_true rfl, Nat.le_of_ble_eq_true rfl⟩ (by decide) ⟨rfl, by decide, _, rfl, rfl⟩ rfl rfl (Nat.le_of_ble_eq_true rfl) (y_X8_speed2 w) (go_iadd (eD DX8_laysTimes 14 rfl) (go_istore_n (eD DX8_laysTimes 15 rfl) rfl (by decide) (go_aload_n (eD DX8_laysTimes 16 rfl) rfl rfl (go_iload_n (eD DX8_laysTimes 17 rfl) rfl rfl (go_iload_n (eD DX8_laysTimes 18 rfl) rfl rfl (go_imul (eD DX8_laysTimes 19 rfl) (go_putI (kz := 47) (eD DX8_laysTimes 20 rfl) fX8_300 (by decide) rfl rfl (fun q h => by cases h; exact ⟨rfl, rfl⟩) rfl (go_aload_n (eD DX8_laysTimes 21 rfl) rfl rfl (go_iconst (eD DX8_laysTimes 22 rfl) (go_putI (kz := 46) (eD DX8_laysTimes 23 rfl) fX8_303 (by decide) rfl rfl (fun q h => by cases h; exact ⟨rfl, rfl⟩) rfl (go_iconst (eD DX8_laysTimes 24 rfl) (go_istore_n (eD DX8_laysTimes 25 rfl) rfl (by decide) (Go.pick [3, 2, 1, 0] rfl (k1)))))))))))))))))))))))))))
set_option maxHeartbeats 4000000 in
set_option maxRecDepth 20000 in
theorem tX8_laysTimes_38 {r : Option eV} {w9 : eW} (w : eW) (ac dn d : Int) {w1 : eW} (hM : MB w) (hd : 0 ≤ d ∧ d ≤ 20) (g1 : ¬ w 33 24 < d → Cal mX8_comesTime [eR 33, (0, d * dn)] w none w1) (k1 : (w 33 24) < d → Go mX8_laysTimes 61 [(0, eR 33), (1, (0, ac)), (2, (0, dn)), (3, (0, 1))] [] w r w9) (k2 : ¬ ((w 33 24) < d) → Go mX8_laysTimes 38 [(0, eR 33), (1, (0, ac)), (2, (0, dn)), (3, (0, d + 1))] [] w1 r w9) : Go mX8_laysTimes 38 [(0, eR 33), (1, (0, ac)), (2, (0, dn)), (3, (0, d))] [] w r w9 := by
  obtain ⟨⟨c1, c2, c3, c4, c5, c6, c7, c8, c9, c10⟩, c11, c12, c13⟩ := id hM
  refine go_iload_n (eD DX8_laysTimes 26 rfl) rfl rfl (go_aload_n (eD DX8_laysTimes 27 rfl) rfl rfl (go_getI (kz := 24) (eD DX8_laysTimes 28 rfl) fX8_216 (by decide) rfl rfl rfl (?_)))
  by_cases h1 : (w 33 24) < d
  · refine go_icmp_gtT (tgt := 59) (eD DX8_laysTimes 29 rfl) rfl (by omega) (show eI (w 33 24) from by omega) h1 ?_
    exact go_iconst (eD DX8_laysTimes 37 rfl) (go_istore_n (eD DX8_laysTimes 38 rfl) rfl (by decide) (Go.pick [1, 2, 3, 0] rfl (k1 h1)))
  · refine go_icmp_gtF (tgt := 59) (eD DX8_laysTimes 29 rfl) rfl (by omega) (show eI (w 33 24) from by omega) h1 ?_
    exact go_aload_n (eD DX8_laysTimes 30 rfl) rfl rfl (go_iload_n (eD DX8_laysTimes 31 rfl) rfl rfl (go_iload_n (eD DX8_laysTimes 32 rfl) rfl rfl (go_imul (eD DX8_laysTimes 33 rfl) (go_callV (ci := 8) [(0, d * dn)] (eD DX8_laysTimes 34 rfl) ⟨eMem 6 101 rfl rfl, sX8_comesTime⟩ ⟨Nat.le_of_ble_eq_true rfl, Nat.le_of_ble_eq_true rfl⟩ (by decide) ⟨rfl, by decide, _, rfl, rfl⟩ rfl rfl (Nat.le_of_ble_eq_true rfl) (g1 (by assumption)) (go_iinc (eD DX8_laysTimes 35 rfl) rfl (by decide) (go_goto (tgt := 38) (eD DX8_laysTimes 36 rfl) rfl (Go.pick [1, 2, 3, 0] rfl (k2 h1))))))))
set_option maxHeartbeats 4000000 in
set_option maxRecDepth 20000 in
theorem tX8_laysTimes_61 {r : Option eV} {w9 : eW} (w : eW) (ac dn d : Int) {w1 : eW} (hM : MB w) (hd : 0 ≤ d ∧ d ≤ 20) (g1 : ¬ w 33 25 < d → Cal mX8_comesTime [eR 33, (0, d * ac)] w none w1) (k1 : (w 33 25) < d → r = none ∧ w9 = w) (k2 : ¬ ((w 33 25) < d) → Go mX8_laysTimes 61 [(0, eR 33), (1, (0, ac)), (2, (0, dn)), (3, (0, d + 1))] [] w1 r w9) : Go mX8_laysTimes 61 [(0, eR 33), (1, (0, ac)), (2, (0, dn)), (3, (0, d))] [] w r w9 := by
  obtain ⟨⟨c1, c2, c3, c4, c5, c6, c7, c8, c9, c10⟩, c11, c12, c13⟩ := id hM
  refine go_iload_n (eD DX8_laysTimes 39 rfl) rfl rfl (go_aload_n (eD DX8_laysTimes 40 rfl) rfl rfl (go_getI (kz := 25) (eD DX8_laysTimes 41 rfl) fX8_219 (by decide) rfl rfl rfl (?_)))
  by_cases h1 : (w 33 25) < d
  · refine go_icmp_gtT (tgt := 82) (eD DX8_laysTimes 42 rfl) rfl (by omega) (show eI (w 33 25) from by omega) h1 ?_
    rw [(k1 h1).1, (k1 h1).2]
    exact go_vret (eD DX8_laysTimes 50 rfl) rfl
  · refine go_icmp_gtF (tgt := 82) (eD DX8_laysTimes 42 rfl) rfl (by omega) (show eI (w 33 25) from by omega) h1 ?_
    exact go_aload_n (eD DX8_laysTimes 43 rfl) rfl rfl (go_iload_n (eD DX8_laysTimes 44 rfl) rfl rfl (go_iload_n (eD DX8_laysTimes 45 rfl) rfl rfl (go_imul (eD DX8_laysTimes 46 rfl) (go_callV (ci := 8) [(0, d * ac)] (eD DX8_laysTimes 47 rfl) ⟨eMem 6 101 rfl rfl, sX8_comesTime⟩ ⟨Nat.le_of_ble_eq_true rfl, Nat.le_of_ble_eq_true rfl⟩ (by decide) ⟨rfl, by decide, _, rfl, rfl⟩ rfl rfl (Nat.le_of_ble_eq_true rfl) (g1 (by assumption)) (go_iinc (eD DX8_laysTimes 48 rfl) rfl (by decide) (go_goto (tgt := 61) (eD DX8_laysTimes 49 rfl) rfl (Go.pick [1, 2, 3, 0] rfl (k2 h1))))))))
set_option maxHeartbeats 4000000 in
set_option maxRecDepth 20000 in
theorem tX8_midst_0 {r : Option eV} {w9 : eW} (w : eW) (k : Int) (hk : 0 ≤ k ∧ k ≤ w 33 46) (hn : 1 ≤ w 33 46 ∧ w 33 46 ≤ 31) (k1 : k = 0 → r = some (0, w 53 0) ∧ w9 = w) (k2 : ¬ (k = 0) → k = (w 33 46) → r = some (0, (2 * (w 53 ((w 33 46) - 1))) + 1) ∧ w9 = w) (k3 : ¬ (k = 0) → ¬ (k = (w 33 46)) → r = some (0, (w 53 (k - 1)) + (w 53 k)) ∧ w9 = w) : Go mX8_midst 0 [(0, eR 33), (1, (0, k))] [] w r w9 := by
  refine go_iload_n (eD DX8_midst 0 rfl) rfl rfl (?_)
  by_cases h1 : k = 0
  · refine go_if_neF (tgt := 13) (eD DX8_midst 1 rfl) rfl (by omega) (not_not_intro h1) ?_
    rw [(k1 h1).1, (k1 h1).2]
    exact go_aload_n (eD DX8_midst 2 rfl) rfl rfl (go_getR (t := 53) (eD DX8_midst 3 rfl) fX8_71 (by decide) rfl ⟨rfl, rfl⟩ (go_iconst (eD DX8_midst 4 rfl) (go_iald (n := 32) (eD DX8_midst 5 rfl) (by decide) rfl (show (0 : Int) ≤ 0 ∧ (0 : Int) < 32 from by decide) (go_goto (tgt := 54) (eD DX8_midst 6 rfl) rfl (go_iret (eD DX8_midst 34 rfl) rfl)))))
  · refine go_if_neT (tgt := 13) (eD DX8_midst 1 rfl) rfl (by omega) h1 ?_
    refine go_iload_n (eD DX8_midst 7 rfl) rfl rfl (go_aload_n (eD DX8_midst 8 rfl) rfl rfl (go_getI (kz := 46) (eD DX8_midst 9 rfl) fX8_303 (by decide) rfl rfl rfl (?_)))
    by_cases h2 : k = (w 33 46)
    · refine go_icmp_neF (tgt := 39) (eD DX8_midst 10 rfl) rfl (by omega) (show eI (w 33 46) from by omega) (not_not_intro h2) ?_
      rw [(k2 h1 h2).1, (k2 h1 h2).2]
      exact go_iconst (eD DX8_midst 11 rfl) (go_aload_n (eD DX8_midst 12 rfl) rfl rfl (go_getR (t := 53) (eD DX8_midst 13 rfl) fX8_71 (by decide) rfl ⟨rfl, rfl⟩ (go_aload_n (eD DX8_midst 14 rfl) rfl rfl (go_getI (kz := 46) (eD DX8_midst 15 rfl) fX8_303 (by decide) rfl rfl rfl (go_iconst (eD DX8_midst 16 rfl) (go_isub (eD DX8_midst 17 rfl) (go_iald (n := 32) (eD DX8_midst 18 rfl) (by decide) rfl (show 0 ≤ ((w 33 46) - 1) ∧ ((w 33 46) - 1) < 32 from by omega) (go_imul (eD DX8_midst 19 rfl) (go_iconst (eD DX8_midst 20 rfl) (go_iadd (eD DX8_midst 21 rfl) (go_goto (tgt := 54) (eD DX8_midst 22 rfl) rfl (go_iret (eD DX8_midst 34 rfl) rfl))))))))))))
    · refine go_icmp_neT (tgt := 39) (eD DX8_midst 10 rfl) rfl (by omega) (show eI (w 33 46) from by omega) h2 ?_
      rw [(k3 h1 h2).1, (k3 h1 h2).2]
      exact go_aload_n (eD DX8_midst 23 rfl) rfl rfl (go_getR (t := 53) (eD DX8_midst 24 rfl) fX8_71 (by decide) rfl ⟨rfl, rfl⟩ (go_iload_n (eD DX8_midst 25 rfl) rfl rfl (go_iconst (eD DX8_midst 26 rfl) (go_isub (eD DX8_midst 27 rfl) (go_iald (n := 32) (eD DX8_midst 28 rfl) (by decide) rfl (by omega) (go_aload_n (eD DX8_midst 29 rfl) rfl rfl (go_getR (t := 53) (eD DX8_midst 30 rfl) fX8_71 (by decide) rfl ⟨rfl, rfl⟩ (go_iload_n (eD DX8_midst 31 rfl) rfl rfl (go_iald (n := 32) (eD DX8_midst 32 rfl) (by decide) rfl (by omega) (go_iadd (eD DX8_midst 33 rfl) (go_iret (eD DX8_midst 34 rfl) rfl)))))))))))
set_option maxHeartbeats 4000000 in
set_option maxRecDepth 20000 in
theorem tX8_samples_0 {r : Option eV} {w9 : eW} (w : eW) (i j : Int) (hi : 0 ≤ i ∧ i < 29) (hj : 0 ≤ j ∧ j < 29) (hl : -1 ≤ w 51 (30 * j + i) ∧ w 51 (30 * j + i) < 900) (k1 : (w 51 ((30 * j) + i)) < 0 → r = none ∧ w9 = w) (k2 : ¬ ((w 51 ((30 * j) + i)) < 0) → r = none ∧ w9 = (eU (eU w 58 (w 51 ((30 * j) + i)) ((w 45 i) + (w 45 (i + 1)))) 59 (w 51 ((30 * j) + i)) ((w 48 j) + (w 48 (j + 1))))) : Go mX8_samples 0 [(0, eR 33), (1, (0, i)), (2, (0, j))] [] w r w9 := by
  refine go_aload_n (eD DX8_samples 0 rfl) rfl rfl (go_getR (t := 51) (eD DX8_samples 1 rfl) fX8_65 (by decide) rfl ⟨rfl, rfl⟩ (go_bipush (eD DX8_samples 2 rfl) (by decide) (go_iload_n (eD DX8_samples 3 rfl) rfl rfl (go_imul (eD DX8_samples 4 rfl) (go_iload_n (eD DX8_samples 5 rfl) rfl rfl (go_iadd (eD DX8_samples 6 rfl) (go_iald (n := 900) (eD DX8_samples 7 rfl) (by decide) rfl (by omega) (go_istore_n (eD DX8_samples 8 rfl) rfl (by decide) (go_iload_n (eD DX8_samples 9 rfl) rfl rfl (?_))))))))))
  by_cases h1 : (w 51 ((30 * j) + i)) < 0
  · refine go_if_geF (tgt := 17) (eD DX8_samples 10 rfl) rfl (show eI (w 51 ((30 * j) + i)) from by omega) (Int.not_le.mpr h1) ?_
    rw [(k1 h1).1, (k1 h1).2]
    exact go_vret (eD DX8_samples 11 rfl) rfl
  · refine go_if_geT (tgt := 17) (eD DX8_samples 10 rfl) rfl (show eI (w 51 ((30 * j) + i)) from by omega) (Int.not_lt.mp h1) ?_
    rw [(k2 h1).1, (k2 h1).2]
    exact go_aload_n (eD DX8_samples 12 rfl) rfl rfl (go_getR (t := 58) (eD DX8_samples 13 rfl) fX8_86 (by decide) rfl ⟨rfl, rfl⟩ (go_iload_n (eD DX8_samples 14 rfl) rfl rfl (go_aload_n (eD DX8_samples 15 rfl) rfl rfl (go_getR (t := 45) (eD DX8_samples 16 rfl) fX8_47 (by decide) rfl ⟨rfl, rfl⟩ (go_iload_n (eD DX8_samples 17 rfl) rfl rfl (go_iald (n := 30) (eD DX8_samples 18 rfl) (by decide) rfl (by omega) (go_aload_n (eD DX8_samples 19 rfl) rfl rfl (go_getR (t := 45) (eD DX8_samples 20 rfl) fX8_47 (by decide) rfl ⟨rfl, rfl⟩ (go_iload_n (eD DX8_samples 21 rfl) rfl rfl (go_iconst (eD DX8_samples 22 rfl) (go_iadd (eD DX8_samples 23 rfl) (go_iald (n := 30) (eD DX8_samples 24 rfl) (by decide) rfl (by omega) (go_iadd (eD DX8_samples 25 rfl) (go_iast (n := 900) (eD DX8_samples 26 rfl) (by decide) rfl (show 0 ≤ (w 51 ((30 * j) + i)) ∧ (w 51 ((30 * j) + i)) < 900 from by omega) (go_aload_n (eD DX8_samples 27 rfl) rfl rfl (go_getR (t := 59) (eD DX8_samples 28 rfl) fX8_89 (by decide) rfl ⟨rfl, rfl⟩ (go_iload_n (eD DX8_samples 29 rfl) rfl rfl (go_aload_n (eD DX8_samples 30 rfl) rfl rfl (go_getR (t := 48) (eD DX8_samples 31 rfl) fX8_56 (by decide) rfl ⟨rfl, rfl⟩ (go_iload_n (eD DX8_samples 32 rfl) rfl rfl (go_iald (n := 30) (eD DX8_samples 33 rfl) (by decide) rfl (by omega) (go_aload_n (eD DX8_samples 34 rfl) rfl rfl (go_getR (t := 48) (eD DX8_samples 35 rfl) fX8_56 (by decide) rfl ⟨rfl, rfl⟩ (go_iload_n (eD DX8_samples 36 rfl) rfl rfl (go_iconst (eD DX8_samples 37 rfl) (go_iadd (eD DX8_samples 38 rfl) (go_iald (n := 30) (eD DX8_samples 39 rfl) (by decide) rfl (by omega) (go_iadd (eD DX8_samples 40 rfl) (go_iast (n := 900) (eD DX8_samples 41 rfl) (by decide) rfl (show 0 ≤ (w 51 ((30 * j) + i)) ∧ (w 51 ((30 * j) + i)) < 900 from by omega) (go_vret (eD DX8_samples 42 rfl) rfl))))))))))))))))))))))))))))))
set_option maxHeartbeats 4000000 in
set_option maxRecDepth 20000 in
theorem tX8_placeIn45_0 {r : Option eV} {w9 : eW} (w : eW) (n v : Int) (k1 : Go mX8_placeIn 2 [(0, eR 45), (1, (0, n)), (2, (0, v)), (3, (0, 0))] [] w r w9) : Go mX8_placeIn 0 [(0, eR 45), (1, (0, n)), (2, (0, v))] [] w r w9 := by
  exact go_iconst (eD DX8_placeIn 0 rfl) (go_istore_n (eD DX8_placeIn 1 rfl) rfl (by decide) (Go.pick [1, 2, 3, 0] rfl (k1)))
set_option maxHeartbeats 4000000 in
set_option maxRecDepth 20000 in
theorem tX8_placeIn45_2 {r : Option eV} {w9 : eW} (w : eW) (n v k : Int) (hn : 0 ≤ n ∧ n ≤ 30) (hv : eI v) (hk : 0 ≤ k ∧ k ≤ 30) (hl : k + 2 < n → eI (2 * w 45 (k + 1))) (k1 : (k + 2) < n → v < (2 * (w 45 (k + 1))) → r = some (0, k) ∧ w9 = w) (k2 : (k + 2) < n → ¬ (v < (2 * (w 45 (k + 1)))) → Go mX8_placeIn 2 [(0, eR 45), (1, (0, n)), (2, (0, v)), (3, (0, k + 1))] [] w r w9) (k3 : ¬ ((k + 2) < n) → r = some (0, k) ∧ w9 = w) : Go mX8_placeIn 2 [(0, eR 45), (1, (0, n)), (2, (0, v)), (3, (0, k))] [] w r w9 := by
  refine go_iload_n (eD DX8_placeIn 2 rfl) rfl rfl (go_iconst (eD DX8_placeIn 3 rfl) (go_iadd (eD DX8_placeIn 4 rfl) (go_iload_n (eD DX8_placeIn 5 rfl) rfl rfl (?_))))
  by_cases h1 : (k + 2) < n
  · refine go_icmp_geF (tgt := 26) (eD DX8_placeIn 6 rfl) rfl (by omega) (by omega) (Int.not_le.mpr h1) ?_
    refine go_iconst (eD DX8_placeIn 7 rfl) (go_aload_n (eD DX8_placeIn 8 rfl) rfl rfl (go_iload_n (eD DX8_placeIn 9 rfl) rfl rfl (go_iconst (eD DX8_placeIn 10 rfl) (go_iadd (eD DX8_placeIn 11 rfl) (go_iald (n := 30) (eD DX8_placeIn 12 rfl) (by decide) rfl (by omega) (go_imul (eD DX8_placeIn 13 rfl) (go_iload_n (eD DX8_placeIn 14 rfl) rfl rfl (?_))))))))
    by_cases h2 : v < (2 * (w 45 (k + 1)))
    · refine go_icmp_gtT (tgt := 26) (eD DX8_placeIn 15 rfl) rfl (show eI (2 * (w 45 (k + 1))) from by omega) (by omega) h2 ?_
      rw [(k1 h1 h2).1, (k1 h1 h2).2]
      exact go_iload_n (eD DX8_placeIn 18 rfl) rfl rfl (go_iret (eD DX8_placeIn 19 rfl) rfl)
    · refine go_icmp_gtF (tgt := 26) (eD DX8_placeIn 15 rfl) rfl (show eI (2 * (w 45 (k + 1))) from by omega) (by omega) h2 ?_
      exact go_iinc (eD DX8_placeIn 16 rfl) rfl (by decide) (go_goto (tgt := 2) (eD DX8_placeIn 17 rfl) rfl (Go.pick [1, 2, 3, 0] rfl (k2 h1 h2)))
  · refine go_icmp_geT (tgt := 26) (eD DX8_placeIn 6 rfl) rfl (by omega) (by omega) (Int.not_lt.mp h1) ?_
    rw [(k3 h1).1, (k3 h1).2]
    exact go_iload_n (eD DX8_placeIn 18 rfl) rfl rfl (go_iret (eD DX8_placeIn 19 rfl) rfl)
set_option maxHeartbeats 4000000 in
set_option maxRecDepth 20000 in
theorem tX8_placeIn48_0 {r : Option eV} {w9 : eW} (w : eW) (n v : Int) (k1 : Go mX8_placeIn 2 [(0, eR 48), (1, (0, n)), (2, (0, v)), (3, (0, 0))] [] w r w9) : Go mX8_placeIn 0 [(0, eR 48), (1, (0, n)), (2, (0, v))] [] w r w9 := by
  exact go_iconst (eD DX8_placeIn 0 rfl) (go_istore_n (eD DX8_placeIn 1 rfl) rfl (by decide) (Go.pick [1, 2, 3, 0] rfl (k1)))
set_option maxHeartbeats 4000000 in
set_option maxRecDepth 20000 in
theorem tX8_placeIn48_2 {r : Option eV} {w9 : eW} (w : eW) (n v k : Int) (hn : 0 ≤ n ∧ n ≤ 30) (hv : eI v) (hk : 0 ≤ k ∧ k ≤ 30) (hl : k + 2 < n → eI (2 * w 48 (k + 1))) (k1 : (k + 2) < n → v < (2 * (w 48 (k + 1))) → r = some (0, k) ∧ w9 = w) (k2 : (k + 2) < n → ¬ (v < (2 * (w 48 (k + 1)))) → Go mX8_placeIn 2 [(0, eR 48), (1, (0, n)), (2, (0, v)), (3, (0, k + 1))] [] w r w9) (k3 : ¬ ((k + 2) < n) → r = some (0, k) ∧ w9 = w) : Go mX8_placeIn 2 [(0, eR 48), (1, (0, n)), (2, (0, v)), (3, (0, k))] [] w r w9 := by
  refine go_iload_n (eD DX8_placeIn 2 rfl) rfl rfl (go_iconst (eD DX8_placeIn 3 rfl) (go_iadd (eD DX8_placeIn 4 rfl) (go_iload_n (eD DX8_placeIn 5 rfl) rfl rfl (?_))))
  by_cases h1 : (k + 2) < n
  · refine go_icmp_geF (tgt := 26) (eD DX8_placeIn 6 rfl) rfl (by omega) (by omega) (Int.not_le.mpr h1) ?_
    refine go_iconst (eD DX8_placeIn 7 rfl) (go_aload_n (eD DX8_placeIn 8 rfl) rfl rfl (go_iload_n (eD DX8_placeIn 9 rfl) rfl rfl (go_iconst (eD DX8_placeIn 10 rfl) (go_iadd (eD DX8_placeIn 11 rfl) (go_iald (n := 30) (eD DX8_placeIn 12 rfl) (by decide) rfl (by omega) (go_imul (eD DX8_placeIn 13 rfl) (go_iload_n (eD DX8_placeIn 14 rfl) rfl rfl (?_))))))))
    by_cases h2 : v < (2 * (w 48 (k + 1)))
    · refine go_icmp_gtT (tgt := 26) (eD DX8_placeIn 15 rfl) rfl (show eI (2 * (w 48 (k + 1))) from by omega) (by omega) h2 ?_
      rw [(k1 h1 h2).1, (k1 h1 h2).2]
      exact go_iload_n (eD DX8_placeIn 18 rfl) rfl rfl (go_iret (eD DX8_placeIn 19 rfl) rfl)
    · refine go_icmp_gtF (tgt := 26) (eD DX8_placeIn 15 rfl) rfl (show eI (2 * (w 48 (k + 1))) from by omega) (by omega) h2 ?_
      exact go_iinc (eD DX8_placeIn 16 rfl) rfl (by decide) (go_goto (tgt := 2) (eD DX8_placeIn 17 rfl) rfl (Go.pick [1, 2, 3, 0] rfl (k2 h1 h2)))
  · refine go_icmp_geT (tgt := 26) (eD DX8_placeIn 6 rfl) rfl (by omega) (by omega) (Int.not_lt.mp h1) ?_
    rw [(k3 h1).1, (k3 h1).2]
    exact go_iload_n (eD DX8_placeIn 18 rfl) rfl rfl (go_iret (eD DX8_placeIn 19 rfl) rfl)
