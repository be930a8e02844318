theorem y_X8_timeOf (w : eW) (px py x y side : Int) (hsp : ∀ k, 140 ≤ k → k < 144 → 1 ≤ w 38 k ∧ w 38 k ≤ 9) (hp : 0 ≤ px ∧ px ≤ 56 ∧ 0 ≤ py ∧ py ≤ 40) (hx : -1 ≤ x ∧ x ≤ 14 ∧ -1 ≤ y ∧ y ≤ 10) (hs : 0 ≤ side ∧ side < 4) : Cal mX8_timeOf [eR 33, (0, px), (0, py), (0, x), (0, y), (0, side)] w (some (0, tmQ (qM w) px py x y side)) w := by
  rw [← tmQ_M]
  exact zX8_timeOf w px py x y side (by omega) (by omega) (by omega) (by omega) (by omega) hsp hp hx hs
set_option maxHeartbeats 4000000 in
set_option maxRecDepth 20000 in
theorem tX8_slopesOf_0 {r : Option eV} {w9 : eW} (w : eW) (px py : Int) {hh : Int} (g1 : Cal mX8_heightOf [eR 33, (0, px), (0, py)] w (some (0, hh)) w) (k1 : Go mX8_slopesOf 13 [(0, eR 33), (1, (0, px)), (2, (0, py)), (3, (0, hh)), (4, (0, 0)), (5, (0, (-1)))] [] w r w9) : Go mX8_slopesOf 0 [(0, eR 33), (1, (0, px)), (2, (0, py))] [] w r w9 := by
  exact go_aload_n (eD DX8_slopesOf 0 rfl) rfl rfl (go_iload_n (eD DX8_slopesOf 1 rfl) rfl rfl (go_iload_n (eD DX8_slopesOf 2 rfl) rfl rfl (go_callV (ci := 8) [(0, px), (0, py)] (eD DX8_slopesOf 3 rfl) ⟨eMem 6 173 rfl rfl, sX8_heightOf⟩ ⟨Nat.le_of_ble_eq_true rfl, Nat.le_of_ble_eq_true rfl⟩ (by decide) ⟨rfl, by decide, _, rfl, rfl⟩ rfl rfl (Nat.le_of_ble_eq_true rfl) g1 (go_istore_n (eD DX8_slopesOf 4 rfl) rfl (by decide) (go_iconst (eD DX8_slopesOf 5 rfl) (go_istore (eD DX8_slopesOf 6 rfl) (by decide) (go_iconst (eD DX8_slopesOf 7 rfl) (go_istore (eD DX8_slopesOf 8 rfl) (by decide) (Go.pick [3, 4, 5, 2, 1, 0] rfl (k1))))))))))
set_option maxHeartbeats 4000000 in
set_option maxRecDepth 20000 in
theorem tX8_slopesOf_13 {r : Option eV} {w9 : eW} (w : eW) (px py h set y : Int) (hM : MB w) (hh : 0 ≤ h ∧ h ≤ 200000) (hy : -1 ≤ y ∧ y ≤ 11) (k1 : (w 33 25) < y → r = some (0, set) ∧ w9 = w) (k2 : ¬ ((w 33 25) < y) → 0 < h → Go mX8_slopesOf 29 [(0, eR 33), (1, (0, px)), (2, (0, py)), (3, (0, h)), (4, (0, set)), (5, (0, y)), (6, (0, (-1)))] [] w r w9) (k3 : ¬ ((w 33 25) < y) → ¬ (0 < h) → r = some (0, set) ∧ w9 = w) : Go mX8_slopesOf 13 [(0, eR 33), (1, (0, px)), (2, (0, py)), (3, (0, h)), (4, (0, set)), (5, (0, y))] [] w r w9 := by
  obtain ⟨⟨c1, c2, c3, c4, c5, c6, c7, c8, c9, c10⟩, c11, c12, c13⟩ := id hM
  refine go_iload (eD DX8_slopesOf 9 rfl) rfl (go_aload_n (eD DX8_slopesOf 10 rfl) rfl rfl (go_getI (kz := 25) (eD DX8_slopesOf 11 rfl) fX8_219 (by decide) rfl rfl rfl (?_)))
  by_cases h1 : (w 33 25) < y
  · refine go_icmp_gtT (tgt := 122) (eD DX8_slopesOf 12 rfl) rfl (by omega) (show eI (w 33 25) from by omega) h1 ?_
    rw [(k1 h1).1, (k1 h1).2]
    exact go_iload (eD DX8_slopesOf 63 rfl) rfl (go_iret (eD DX8_slopesOf 64 rfl) rfl)
  · refine go_icmp_gtF (tgt := 122) (eD DX8_slopesOf 12 rfl) rfl (by omega) (show eI (w 33 25) from by omega) h1 ?_
    refine go_iload_n (eD DX8_slopesOf 13 rfl) rfl rfl (?_)
    by_cases h2 : 0 < h
    · refine go_if_leF (tgt := 122) (eD DX8_slopesOf 14 rfl) rfl (by omega) (Int.not_le.mpr h2) ?_
      exact go_iconst (eD DX8_slopesOf 15 rfl) (go_istore (eD DX8_slopesOf 16 rfl) (by decide) (Go.pick [1, 2, 3, 4, 5, 6, 0] rfl (k2 h1 h2)))
    · refine go_if_leT (tgt := 122) (eD DX8_slopesOf 14 rfl) rfl (by omega) (Int.not_lt.mp h2) ?_
      rw [(k3 h1 h2).1, (k3 h1 h2).2]
      exact go_iload (eD DX8_slopesOf 63 rfl) rfl (go_iret (eD DX8_slopesOf 64 rfl) rfl)
set_option maxHeartbeats 4000000 in
set_option maxRecDepth 20000 in
theorem tX8_slopesOf_29 {r : Option eV} {w9 : eW} (w : eW) (px py h set y x : Int) (hM : MB w) (hsp : ∀ k, 140 ≤ k → k < 144 → 1 ≤ w 38 k ∧ w 38 k ≤ 9) (hp : 0 ≤ px ∧ px ≤ 56 ∧ 0 ≤ py ∧ py ≤ 40) (hh : 0 ≤ h ∧ h ≤ 200000) (hy : -1 ≤ y ∧ y ≤ w 33 25) (hx : -1 ≤ x ∧ x ≤ 15) (hr : x ≤ w 33 24 → 0 ≤ rcQ (qM w) px py x y ∧ rcQ (qM w) px py x y ≤ 200000) (k1 : (w 33 24) < x → Go mX8_slopesOf 13 [(0, eR 33), (1, (0, px)), (2, (0, py)), (3, (0, h)), (4, (0, set)), (5, (0, y + 1))] [] w r w9) (k2 : ¬ ((w 33 24) < x) → insM w x y → Go mX8_slopesOf 29 [(0, eR 33), (1, (0, px)), (2, (0, py)), (3, (0, h)), (4, (0, set)), (5, (0, y)), (6, (0, x + 1))] [] w r w9) (k3 : ¬ ((w 33 24) < x) → ¬ (insM w x y) → (rcQ (qM w) px py x y) = h → Go mX8_slopesOf 69 [(0, eR 33), (1, (0, px)), (2, (0, py)), (3, (0, h)), (4, (0, set)), (5, (0, y)), (6, (0, x)), (7, (0, 0))] [] w r w9) (k4 : ¬ ((w 33 24) < x) → ¬ (insM w x y) → ¬ ((rcQ (qM w) px py x y) = h) → Go mX8_slopesOf 29 [(0, eR 33), (1, (0, px)), (2, (0, py)), (3, (0, h)), (4, (0, set)), (5, (0, y)), (6, (0, x + 1))] [] w r w9) : Go mX8_slopesOf 29 [(0, eR 33), (1, (0, px)), (2, (0, py)), (3, (0, h)), (4, (0, set)), (5, (0, y)), (6, (0, x))] [] w r w9 := by
  obtain ⟨⟨c1, c2, c3, c4, c5, c6, c7, c8, c9, c10⟩, c11, c12, c13⟩ := id hM
  refine go_iload (eD DX8_slopesOf 17 rfl) rfl (go_aload_n (eD DX8_slopesOf 18 rfl) rfl rfl (go_getI (kz := 24) (eD DX8_slopesOf 19 rfl) fX8_216 (by decide) rfl rfl rfl (?_)))
  by_cases h1 : (w 33 24) < x
  · refine go_icmp_gtT (tgt := 116) (eD DX8_slopesOf 20 rfl) rfl (by omega) (show eI (w 33 24) from by omega) h1 ?_
    exact go_iinc (eD DX8_slopesOf 61 rfl) rfl (by decide) (go_goto (tgt := 13) (eD DX8_slopesOf 62 rfl) rfl (Go.pick [1, 2, 3, 4, 5, 0] rfl (k1 h1)))
  · refine go_icmp_gtF (tgt := 116) (eD DX8_slopesOf 20 rfl) rfl (by omega) (show eI (w 33 24) from by omega) h1 ?_
    refine go_aload_n (eD DX8_slopesOf 21 rfl) rfl rfl (go_iload (eD DX8_slopesOf 22 rfl) rfl (go_iload (eD DX8_slopesOf 23 rfl) rfl (go_callV (ci := 8) [(0, x), (0, y)] (eD DX8_slopesOf 24 rfl) ⟨eMem 6 75 rfl rfl, sX8_isInside⟩ ⟨Nat.le_of_ble_eq_true rfl, Nat.le_of_ble_eq_true rfl⟩ (by decide) ⟨rfl, by decide, _, rfl, rfl⟩ rfl rfl (Nat.le_of_ble_eq_true rfl) (y_b_X8_isInside w x y (by omega) (by omega) (by assumption)) (?_))))
    by_cases h2 : insM w x y
    · refine go_if_neT (tgt := 110) (eD DX8_slopesOf 25 rfl) rfl (eI_pI _) (pI1 h2) ?_
      exact go_iinc (eD DX8_slopesOf 59 rfl) rfl (by decide) (go_goto (tgt := 29) (eD DX8_slopesOf 60 rfl) rfl (Go.pick [1, 2, 3, 4, 5, 6, 0] rfl (k2 h1 h2)))
    · refine go_if_neF (tgt := 110) (eD DX8_slopesOf 25 rfl) rfl (eI_pI _) (not_not_intro (pI0 h2)) ?_
      refine go_aload_n (eD DX8_slopesOf 26 rfl) rfl rfl (go_iload_n (eD DX8_slopesOf 27 rfl) rfl rfl (go_iload_n (eD DX8_slopesOf 28 rfl) rfl rfl (go_iload (eD DX8_slopesOf 29 rfl) rfl (go_iload (eD DX8_slopesOf 30 rfl) rfl (go_callV (ci := 8) [(0, px), (0, py), (0, x), (0, y)] (eD DX8_slopesOf 31 rfl) ⟨eMem 6 177 rfl rfl, sX8_reachOf⟩ ⟨Nat.le_of_ble_eq_true rfl, Nat.le_of_ble_eq_true rfl⟩ (by decide) ⟨rfl, by decide, _, rfl, rfl⟩ rfl rfl (Nat.le_of_ble_eq_true rfl) (y_X8_reachOf w px py x y hsp (by omega) (by omega)) (go_iload_n (eD DX8_slopesOf 32 rfl) rfl rfl (?_)))))))
      by_cases h3 : (rcQ (qM w) px py x y) = h
      · refine go_icmp_eqT (tgt := 66) (eD DX8_slopesOf 33 rfl) rfl (show eI (rcQ (qM w) px py x y) from by omega) (by omega) h3 ?_
        exact go_iconst (eD DX8_slopesOf 35 rfl) (go_istore (eD DX8_slopesOf 36 rfl) (by decide) (Go.pick [1, 2, 3, 4, 5, 6, 7, 0] rfl (k3 h1 h2 h3)))
      · refine go_icmp_eqF (tgt := 66) (eD DX8_slopesOf 33 rfl) rfl (show eI (rcQ (qM w) px py x y) from by omega) (by omega) h3 ?_
        exact go_goto (tgt := 110) (eD DX8_slopesOf 34 rfl) rfl (go_iinc (eD DX8_slopesOf 59 rfl) rfl (by decide) (go_goto (tgt := 29) (eD DX8_slopesOf 60 rfl) rfl (Go.pick [1, 2, 3, 4, 5, 6, 0] rfl (k4 h1 h2 h3))))
set_option maxHeartbeats 4000000 in
set_option maxRecDepth 20000 in
theorem tX8_slopesOf0_69 {r : Option eV} {w9 : eW} (w : eW) (px py h set y x : Int) (hsp : ∀ k, 140 ≤ k → k < 144 → 1 ≤ w 38 k ∧ w 38 k ≤ 9) (hp : 0 ≤ px ∧ px ≤ 56 ∧ 0 ≤ py ∧ py ≤ 40) (hy : -1 ≤ y ∧ y ≤ 10) (hx : -1 ≤ x ∧ x ≤ 14) (hh : eI h) (ht : eI (tmQ (qM w) px py x y 0)) (k1 : (tmQ (qM w) px py x y 0) = h → Go mX8_slopesOf 69 [(0, eR 33), (1, (0, px)), (2, (0, py)), (3, (0, h)), (4, (0, eOr set (1 * 2 ^ (0 : Int).toNat))), (5, (0, y)), (6, (0, x)), (7, (0, 0 + 1))] [] w r w9) (k2 : ¬ ((tmQ (qM w) px py x y 0) = h) → Go mX8_slopesOf 69 [(0, eR 33), (1, (0, px)), (2, (0, py)), (3, (0, h)), (4, (0, eOr set 0)), (5, (0, y)), (6, (0, x)), (7, (0, 0 + 1))] [] w r w9) : Go mX8_slopesOf 69 [(0, eR 33), (1, (0, px)), (2, (0, py)), (3, (0, h)), (4, (0, set)), (5, (0, y)), (6, (0, x)), (7, (0, 0))] [] w r w9 := by
  refine go_iload (eD DX8_slopesOf 37 rfl) rfl (go_iconst (eD DX8_slopesOf 38 rfl) (go_icmp_geF (tgt := 110) (eD DX8_slopesOf 39 rfl) rfl (by decide) (by decide) (Int.not_le.mpr (show (0 : Int) < 4 from by decide)) (?_)))
  refine go_iload (eD DX8_slopesOf 40 rfl) rfl (go_aload_n (eD DX8_slopesOf 41 rfl) rfl rfl (go_iload_n (eD DX8_slopesOf 42 rfl) rfl rfl (go_iload_n (eD DX8_slopesOf 43 rfl) rfl rfl (go_iload (eD DX8_slopesOf 44 rfl) rfl (go_iload (eD DX8_slopesOf 45 rfl) rfl (go_iload (eD DX8_slopesOf 46 rfl) rfl (go_callV (ci := 8) [(0, px), (0, py), (0, x), (0, y), (0, 0)] (eD DX8_slopesOf 47 rfl) ⟨eMem 6 181 rfl rfl, sX8_timeOf⟩ ⟨Nat.le_of_ble_eq_true rfl, Nat.le_of_ble_eq_true rfl⟩ (by decide) ⟨rfl, by decide, _, rfl, rfl⟩ rfl rfl (Nat.le_of_ble_eq_true rfl) (y_X8_timeOf w px py x y 0 hsp (by omega) (by omega) (by decide)) (go_iload_n (eD DX8_slopesOf 48 rfl) rfl rfl (?_)))))))))
  by_cases h1 : (tmQ (qM w) px py x y 0) = h
  · refine go_icmp_neF (tgt := 100) (eD DX8_slopesOf 49 rfl) rfl (show eI (tmQ (qM w) px py x y 0) from by omega) (by omega) (not_not_intro h1) ?_
    exact go_iconst (eD DX8_slopesOf 50 rfl) (go_iload (eD DX8_slopesOf 51 rfl) rfl (go_ishl (eD DX8_slopesOf 52 rfl) (show (0 : Int) ≤ 0 ∧ (0 : Int) < 32 from by decide) (go_goto (tgt := 101) (eD DX8_slopesOf 53 rfl) rfl (go_ior (eD DX8_slopesOf 55 rfl) (go_istore (eD DX8_slopesOf 56 rfl) (by decide) (go_iinc (eD DX8_slopesOf 57 rfl) rfl (by decide) (go_goto (tgt := 69) (eD DX8_slopesOf 58 rfl) rfl (Go.pick [2, 3, 4, 5, 1, 6, 7, 0] rfl (k1 h1)))))))))
  · refine go_icmp_neT (tgt := 100) (eD DX8_slopesOf 49 rfl) rfl (show eI (tmQ (qM w) px py x y 0) from by omega) (by omega) h1 ?_
    exact go_iconst (eD DX8_slopesOf 54 rfl) (go_ior (eD DX8_slopesOf 55 rfl) (go_istore (eD DX8_slopesOf 56 rfl) (by decide) (go_iinc (eD DX8_slopesOf 57 rfl) rfl (by decide) (go_goto (tgt := 69) (eD DX8_slopesOf 58 rfl) rfl (Go.pick [2, 3, 4, 5, 1, 6, 7, 0] rfl (k2 h1))))))
set_option maxHeartbeats 4000000 in
set_option maxRecDepth 20000 in
theorem tX8_slopesOf1_69 {r : Option eV} {w9 : eW} (w : eW) (px py h set y x : Int) (hsp : ∀ k, 140 ≤ k → k < 144 → 1 ≤ w 38 k ∧ w 38 k ≤ 9) (hp : 0 ≤ px ∧ px ≤ 56 ∧ 0 ≤ py ∧ py ≤ 40) (hy : -1 ≤ y ∧ y ≤ 10) (hx : -1 ≤ x ∧ x ≤ 14) (hh : eI h) (ht : eI (tmQ (qM w) px py x y 1)) (k1 : (tmQ (qM w) px py x y 1) = h → Go mX8_slopesOf 69 [(0, eR 33), (1, (0, px)), (2, (0, py)), (3, (0, h)), (4, (0, eOr set (1 * 2 ^ (1 : Int).toNat))), (5, (0, y)), (6, (0, x)), (7, (0, 1 + 1))] [] w r w9) (k2 : ¬ ((tmQ (qM w) px py x y 1) = h) → Go mX8_slopesOf 69 [(0, eR 33), (1, (0, px)), (2, (0, py)), (3, (0, h)), (4, (0, eOr set 0)), (5, (0, y)), (6, (0, x)), (7, (0, 1 + 1))] [] w r w9) : Go mX8_slopesOf 69 [(0, eR 33), (1, (0, px)), (2, (0, py)), (3, (0, h)), (4, (0, set)), (5, (0, y)), (6, (0, x)), (7, (0, 1))] [] w r w9 := by
  refine go_iload (eD DX8_slopesOf 37 rfl) rfl (go_iconst (eD DX8_slopesOf 38 rfl) (go_icmp_geF (tgt := 110) (eD DX8_slopesOf 39 rfl) rfl (by decide) (by decide) (Int.not_le.mpr (show (1 : Int) < 4 from by decide)) (?_)))
  refine go_iload (eD DX8_slopesOf 40 rfl) rfl (go_aload_n (eD DX8_slopesOf 41 rfl) rfl rfl (go_iload_n (eD DX8_slopesOf 42 rfl) rfl rfl (go_iload_n (eD DX8_slopesOf 43 rfl) rfl rfl (go_iload (eD DX8_slopesOf 44 rfl) rfl (go_iload (eD DX8_slopesOf 45 rfl) rfl (go_iload (eD DX8_slopesOf 46 rfl) rfl (go_callV (ci := 8) [(0, px), (0, py), (0, x), (0, y), (0, 1)] (eD DX8_slopesOf 47 rfl) ⟨eMem 6 181 rfl rfl, sX8_timeOf⟩ ⟨Nat.le_of_ble_eq_true rfl, Nat.le_of_ble_eq_true rfl⟩ (by decide) ⟨rfl, by decide, _, rfl, rfl⟩ rfl rfl (Nat.le_of_ble_eq_true rfl) (y_X8_timeOf w px py x y 1 hsp (by omega) (by omega) (by decide)) (go_iload_n (eD DX8_slopesOf 48 rfl) rfl rfl (?_)))))))))
  by_cases h1 : (tmQ (qM w) px py x y 1) = h
  · refine go_icmp_neF (tgt := 100) (eD DX8_slopesOf 49 rfl) rfl (show eI (tmQ (qM w) px py x y 1) from by omega) (by omega) (not_not_intro h1) ?_
    exact go_iconst (eD DX8_slopesOf 50 rfl) (go_iload (eD DX8_slopesOf 51 rfl) rfl (go_ishl (eD DX8_slopesOf 52 rfl) (show (0 : Int) ≤ 1 ∧ (1 : Int) < 32 from by decide) (go_goto (tgt := 101) (eD DX8_slopesOf 53 rfl) rfl (go_ior (eD DX8_slopesOf 55 rfl) (go_istore (eD DX8_slopesOf 56 rfl) (by decide) (go_iinc (eD DX8_slopesOf 57 rfl) rfl (by decide) (go_goto (tgt := 69) (eD DX8_slopesOf 58 rfl) rfl (Go.pick [2, 3, 4, 5, 1, 6, 7, 0] rfl (k1 h1)))))))))
  · refine go_icmp_neT (tgt := 100) (eD DX8_slopesOf 49 rfl) rfl (show eI (tmQ (qM w) px py x y 1) from by omega) (by omega) h1 ?_
    exact go_iconst (eD DX8_slopesOf 54 rfl) (go_ior (eD DX8_slopesOf 55 rfl) (go_istore (eD DX8_slopesOf 56 rfl) (by decide) (go_iinc (eD DX8_slopesOf 57 rfl) rfl (by decide) (go_goto (tgt := 69) (eD DX8_slopesOf 58 rfl) rfl (Go.pick [2, 3, 4, 5, 1, 6, 7, 0] rfl (k2 h1))))))
set_option maxHeartbeats 4000000 in
set_option maxRecDepth 20000 in
theorem tX8_slopesOf2_69 {r : Option eV} {w9 : eW} (w : eW) (px py h set y x : Int) (hsp : ∀ k, 140 ≤ k → k < 144 → 1 ≤ w 38 k ∧ w 38 k ≤ 9) (hp : 0 ≤ px ∧ px ≤ 56 ∧ 0 ≤ py ∧ py ≤ 40) (hy : -1 ≤ y ∧ y ≤ 10) (hx : -1 ≤ x ∧ x ≤ 14) (hh : eI h) (ht : eI (tmQ (qM w) px py x y 2)) (k1 : (tmQ (qM w) px py x y 2) = h → Go mX8_slopesOf 69 [(0, eR 33), (1, (0, px)), (2, (0, py)), (3, (0, h)), (4, (0, eOr set (1 * 2 ^ (2 : Int).toNat))), (5, (0, y)), (6, (0, x)), (7, (0, 2 + 1))] [] w r w9) (k2 : ¬ ((tmQ (qM w) px py x y 2) = h) → Go mX8_slopesOf 69 [(0, eR 33), (1, (0, px)), (2, (0, py)), (3, (0, h)), (4, (0, eOr set 0)), (5, (0, y)), (6, (0, x)), (7, (0, 2 + 1))] [] w r w9) : Go mX8_slopesOf 69 [(0, eR 33), (1, (0, px)), (2, (0, py)), (3, (0, h)), (4, (0, set)), (5, (0, y)), (6, (0, x)), (7, (0, 2))] [] w r w9 := by
  refine go_iload (eD DX8_slopesOf 37 rfl) rfl (go_iconst (eD DX8_slopesOf 38 rfl) (go_icmp_geF (tgt := 110) (eD DX8_slopesOf 39 rfl) rfl (by decide) (by decide) (Int.not_le.mpr (show (2 : Int) < 4 from by decide)) (?_)))
  refine go_iload (eD DX8_slopesOf 40 rfl) rfl (go_aload_n (eD DX8_slopesOf 41 rfl) rfl rfl (go_iload_n (eD DX8_slopesOf 42 rfl) rfl rfl (go_iload_n (eD DX8_slopesOf 43 rfl) rfl rfl (go_iload (eD DX8_slopesOf 44 rfl) rfl (go_iload (eD DX8_slopesOf 45 rfl) rfl (go_iload (eD DX8_slopesOf 46 rfl) rfl (go_callV (ci := 8) [(0, px), (0, py), (0, x), (0, y), (0, 2)] (eD DX8_slopesOf 47 rfl) ⟨eMem 6 181 rfl rfl, sX8_timeOf⟩ ⟨Nat.le_of_ble_eq_true rfl, Nat.le_of_ble_eq_true rfl⟩ (by decide) ⟨rfl, by decide, _, rfl, rfl⟩ rfl rfl (Nat.le_of_ble_eq_true rfl) (y_X8_timeOf w px py x y 2 hsp (by omega) (by omega) (by decide)) (go_iload_n (eD DX8_slopesOf 48 rfl) rfl rfl (?_)))))))))
  by_cases h1 : (tmQ (qM w) px py x y 2) = h
  · refine go_icmp_neF (tgt := 100) (eD DX8_slopesOf 49 rfl) rfl (show eI (tmQ (qM w) px py x y 2) from by omega) (by omega) (not_not_intro h1) ?_
    exact go_iconst (eD DX8_slopesOf 50 rfl) (go_iload (eD DX8_slopesOf 51 rfl) rfl (go_ishl (eD DX8_slopesOf 52 rfl) (show (0 : Int) ≤ 2 ∧ (2 : Int) < 32 from by decide) (go_goto (tgt := 101) (eD DX8_slopesOf 53 rfl) rfl (go_ior (eD DX8_slopesOf 55 rfl) (go_istore (eD DX8_slopesOf 56 rfl) (by decide) (go_iinc (eD DX8_slopesOf 57 rfl) rfl (by decide) (go_goto (tgt := 69) (eD DX8_slopesOf 58 rfl) rfl (Go.pick [2, 3, 4, 5, 1, 6, 7, 0] rfl (k1 h1)))))))))
  · refine go_icmp_neT (tgt := 100) (eD DX8_slopesOf 49 rfl) rfl (show eI (tmQ (qM w) px py x y 2) from by omega) (by omega) h1 ?_
    exact go_iconst (eD DX8_slopesOf 54 rfl) (go_ior (eD DX8_slopesOf 55 rfl) (go_istore (eD DX8_slopesOf 56 rfl) (by decide) (go_iinc (eD DX8_slopesOf 57 rfl) rfl (by decide) (go_goto (tgt := 69) (eD DX8_slopesOf 58 rfl) rfl (Go.pick [2, 3, 4, 5, 1, 6, 7, 0] rfl (k2 h1))))))
set_option maxHeartbeats 4000000 in
set_option maxRecDepth 20000 in
theorem tX8_slopesOf3_69 {r : Option eV} {w9 : eW} (w : eW) (px py h set y x : Int) (hsp : ∀ k, 140 ≤ k → k < 144 → 1 ≤ w 38 k ∧ w 38 k ≤ 9) (hp : 0 ≤ px ∧ px ≤ 56 ∧ 0 ≤ py ∧ py ≤ 40) (hy : -1 ≤ y ∧ y ≤ 10) (hx : -1 ≤ x ∧ x ≤ 14) (hh : eI h) (ht : eI (tmQ (qM w) px py x y 3)) (k1 : (tmQ (qM w) px py x y 3) = h → Go mX8_slopesOf 69 [(0, eR 33), (1, (0, px)), (2, (0, py)), (3, (0, h)), (4, (0, eOr set (1 * 2 ^ (3 : Int).toNat))), (5, (0, y)), (6, (0, x)), (7, (0, 3 + 1))] [] w r w9) (k2 : ¬ ((tmQ (qM w) px py x y 3) = h) → Go mX8_slopesOf 69 [(0, eR 33), (1, (0, px)), (2, (0, py)), (3, (0, h)), (4, (0, eOr set 0)), (5, (0, y)), (6, (0, x)), (7, (0, 3 + 1))] [] w r w9) : Go mX8_slopesOf 69 [(0, eR 33), (1, (0, px)), (2, (0, py)), (3, (0, h)), (4, (0, set)), (5, (0, y)), (6, (0, x)), (7, (0, 3))] [] w r w9 := by
  refine go_iload (eD DX8_slopesOf 37 rfl) rfl (go_iconst (eD DX8_slopesOf 38 rfl) (go_icmp_geF (tgt := 110) (eD DX8_slopesOf 39 rfl) rfl (by decide) (by decide) (Int.not_le.mpr (show (3 : Int) < 4 from by decide)) (?_)))
  refine go_iload (eD DX8_slopesOf 40 rfl) rfl (go_aload_n (eD DX8_slopesOf 41 rfl) rfl rfl (go_iload_n (eD DX8_slopesOf 42 rfl) rfl rfl (go_iload_n (eD DX8_slopesOf 43 rfl) rfl rfl (go_iload (eD DX8_slopesOf 44 rfl) rfl (go_iload (eD DX8_slopesOf 45 rfl) rfl (go_iload (eD DX8_slopesOf 46 rfl) rfl (go_callV (ci := 8) [(0, px), (0, py), (0, x), (0, y), (0, 3)] (eD DX8_slopesOf 47 rfl) ⟨eMem 6 181 rfl rfl, sX8_timeOf⟩ ⟨Nat.le_of_ble_eq_true rfl, Nat.le_of_ble_eq_true rfl⟩ (by decide) ⟨rfl, by decide, _, rfl, rfl⟩ rfl rfl (Nat.le_of_ble_eq_true rfl) (y_X8_timeOf w px py x y 3 hsp (by omega) (by omega) (by decide)) (go_iload_n (eD DX8_slopesOf 48 rfl) rfl rfl (?_)))))))))
  by_cases h1 : (tmQ (qM w) px py x y 3) = h
  · refine go_icmp_neF (tgt := 100) (eD DX8_slopesOf 49 rfl) rfl (show eI (tmQ (qM w) px py x y 3) from by omega) (by omega) (not_not_intro h1) ?_
    exact go_iconst (eD DX8_slopesOf 50 rfl) (go_iload (eD DX8_slopesOf 51 rfl) rfl (go_ishl (eD DX8_slopesOf 52 rfl) (show (0 : Int) ≤ 3 ∧ (3 : Int) < 32 from by decide) (go_goto (tgt := 101) (eD DX8_slopesOf 53 rfl) rfl (go_ior (eD DX8_slopesOf 55 rfl) (go_istore (eD DX8_slopesOf 56 rfl) (by decide) (go_iinc (eD DX8_slopesOf 57 rfl) rfl (by decide) (go_goto (tgt := 69) (eD DX8_slopesOf 58 rfl) rfl (Go.pick [2, 3, 4, 5, 1, 6, 7, 0] rfl (k1 h1)))))))))
  · refine go_icmp_neT (tgt := 100) (eD DX8_slopesOf 49 rfl) rfl (show eI (tmQ (qM w) px py x y 3) from by omega) (by omega) h1 ?_
    exact go_iconst (eD DX8_slopesOf 54 rfl) (go_ior (eD DX8_slopesOf 55 rfl) (go_istore (eD DX8_slopesOf 56 rfl) (by decide) (go_iinc (eD DX8_slopesOf 57 rfl) rfl (by decide) (go_goto (tgt := 69) (eD DX8_slopesOf 58 rfl) rfl (Go.pick [2, 3, 4, 5, 1, 6, 7, 0] rfl (k2 h1))))))
set_option maxHeartbeats 4000000 in
set_option maxRecDepth 20000 in
theorem tX8_slopesOf4_69 {r : Option eV} {w9 : eW} (w : eW) (px py h set y x : Int) (k1 : Go mX8_slopesOf 29 [(0, eR 33), (1, (0, px)), (2, (0, py)), (3, (0, h)), (4, (0, set)), (5, (0, y)), (6, (0, x + 1))] [] w r w9) : Go mX8_slopesOf 69 [(0, eR 33), (1, (0, px)), (2, (0, py)), (3, (0, h)), (4, (0, set)), (5, (0, y)), (6, (0, x)), (7, (0, 4))] [] w r w9 := by
  refine go_iload (eD DX8_slopesOf 37 rfl) rfl (go_iconst (eD DX8_slopesOf 38 rfl) (go_icmp_geT (tgt := 110) (eD DX8_slopesOf 39 rfl) rfl (by decide) (by decide) (Int.not_lt.mp (show ¬ ((4 : Int) < 4) from by decide)) (?_)))
  exact go_iinc (eD DX8_slopesOf 59 rfl) rfl (by decide) (go_goto (tgt := 29) (eD DX8_slopesOf 60 rfl) rfl (Go.pick [1, 2, 3, 4, 5, 6, 0] rfl (k1)))
set_option maxHeartbeats 4000000 in
set_option maxRecDepth 20000 in
theorem tX8_dropBy0_0 {r : Option eV} {w9 : eW} (w : eW) (px py h : Int) (k1 : Go mX8_dropBy 11 [(0, eR 33), (1, (0, px)), (2, (0, py)), (3, (0, h)), (4, (0, 0)), (5, (0, (0 + 2) % 4)), (6, (0, (-1)))] [] w r w9) : Go mX8_dropBy 0 [(0, eR 33), (1, (0, px)), (2, (0, py)), (3, (0, h)), (4, (0, 0))] [] w r w9 := by
  exact go_iload (eD DX8_dropBy 0 rfl) rfl (go_iconst (eD DX8_dropBy 1 rfl) (go_iadd (eD DX8_dropBy 2 rfl) (go_iconst (eD DX8_dropBy 3 rfl) (go_irem (eD DX8_dropBy 4 rfl) (show eI (0 + 2) from by decide) (by decide) (show (0 : Int) ≤ (0 + 2) from by decide) (show (0 : Int) < 4 from by decide) (go_istore (eD DX8_dropBy 5 rfl) (by decide) (go_iconst (eD DX8_dropBy 6 rfl) (go_istore (eD DX8_dropBy 7 rfl) (by decide) (Go.pick [2, 3, 4, 5, 6, 1, 0] rfl (k1)))))))))
set_option maxHeartbeats 4000000 in
set_option maxRecDepth 20000 in
theorem tX8_dropBy0_11 {r : Option eV} {w9 : eW} (w : eW) (px py h y : Int) (hM : MB w) (hy : -1 ≤ y ∧ y ≤ 11) (k1 : (w 33 25) < y → r = some (0, (-1)) ∧ w9 = w) (k2 : ¬ ((w 33 25) < y) → Go mX8_dropBy 23 [(0, eR 33), (1, (0, px)), (2, (0, py)), (3, (0, h)), (4, (0, 0)), (5, (0, (0 + 2) % 4)), (6, (0, y)), (7, (0, (-1)))] [] w r w9) : Go mX8_dropBy 11 [(0, eR 33), (1, (0, px)), (2, (0, py)), (3, (0, h)), (4, (0, 0)), (5, (0, (0 + 2) % 4)), (6, (0, y))] [] w r w9 := by
  obtain ⟨⟨c1, c2, c3, c4, c5, c6, c7, c8, c9, c10⟩, c11, c12, c13⟩ := id hM
  refine go_iload (eD DX8_dropBy 8 rfl) rfl (go_aload_n (eD DX8_dropBy 9 rfl) rfl rfl (go_getI (kz := 25) (eD DX8_dropBy 10 rfl) fX8_219 (by decide) rfl rfl rfl (?_)))
  by_cases h1 : (w 33 25) < y
  · refine go_icmp_gtT (tgt := 130) (eD DX8_dropBy 11 rfl) rfl (by omega) (show eI (w 33 25) from by omega) h1 ?_
    rw [(k1 h1).1, (k1 h1).2]
    exact go_iconst (eD DX8_dropBy 64 rfl) (go_iret (eD DX8_dropBy 65 rfl) rfl)
  · refine go_icmp_gtF (tgt := 130) (eD DX8_dropBy 11 rfl) rfl (by omega) (show eI (w 33 25) from by omega) h1 ?_
    exact go_iconst (eD DX8_dropBy 12 rfl) (go_istore (eD DX8_dropBy 13 rfl) (by decide) (Go.pick [1, 2, 3, 4, 5, 6, 7, 0] rfl (k2 h1)))
set_option maxHeartbeats 4000000 in
set_option maxRecDepth 20000 in
theorem tX8_dropBy0_23 {r : Option eV} {w9 : eW} (w : eW) (px py h y x : Int) {ww : Int} (hM : MB w) (hsp : ∀ k, 140 ≤ k → k < 144 → 1 ≤ w 38 k ∧ w 38 k ≤ 9) (hp : 0 ≤ px ∧ px ≤ 56 ∧ 0 ≤ py ∧ py ≤ 40) (hh : eI h) (hy : -1 ≤ y ∧ y ≤ w 33 25) (hx : -1 ≤ x ∧ x ≤ 15) (hr : x ≤ w 33 24 → 0 ≤ rcQ (qM w) px py x y ∧ rcQ (qM w) px py x y ≤ 200000) (ht : x ≤ w 33 24 → 0 ≤ tmQ (qM w) px py x y 0 ∧ tmQ (qM w) px py x y 0 ≤ 200000) (g1 : ¬ w 33 24 < x → ¬ insM w x y → insM w (x) (y + 1) → Cal mX8_wallWith [eR 33, (0, x), (0, y + 1), (0, 0)] w (some (0, ww)) w) (k1 : (w 33 24) < x → Go mX8_dropBy 11 [(0, eR 33), (1, (0, px)), (2, (0, py)), (3, (0, h)), (4, (0, 0)), (5, (0, (0 + 2) % 4)), (6, (0, y + 1))] [] w r w9) (k2 : ¬ ((w 33 24) < x) → insM w x y → Go mX8_dropBy 23 [(0, eR 33), (1, (0, px)), (2, (0, py)), (3, (0, h)), (4, (0, 0)), (5, (0, (0 + 2) % 4)), (6, (0, y)), (7, (0, x + 1))] [] w r w9) (k3 : ¬ ((w 33 24) < x) → ¬ (insM w x y) → insM w x (y + 1) → (rcQ (qM w) px py x y) = h → (tmQ (qM w) px py x y 0) = h → r = some (0, ww) ∧ w9 = w) (k4 : ¬ ((w 33 24) < x) → ¬ (insM w x y) → insM w x (y + 1) → (rcQ (qM w) px py x y) = h → ¬ ((tmQ (qM w) px py x y 0) = h) → Go mX8_dropBy 23 [(0, eR 33), (1, (0, px)), (2, (0, py)), (3, (0, h)), (4, (0, 0)), (5, (0, (0 + 2) % 4)), (6, (0, y)), (7, (0, x + 1))] [] w r w9) (k5 : ¬ ((w 33 24) < x) → ¬ (insM w x y) → insM w x (y + 1) → ¬ ((rcQ (qM w) px py x y) = h) → Go mX8_dropBy 23 [(0, eR 33), (1, (0, px)), (2, (0, py)), (3, (0, h)), (4, (0, 0)), (5, (0, (0 + 2) % 4)), (6, (0, y)), (7, (0, x + 1))] [] w r w9) (k6 : ¬ ((w 33 24) < x) → ¬ (insM w x y) → ¬ (insM w x (y + 1)) → Go mX8_dropBy 23 [(0, eR 33), (1, (0, px)), (2, (0, py)), (3, (0, h)), (4, (0, 0)), (5, (0, (0 + 2) % 4)), (6, (0, y)), (7, (0, x + 1))] [] w r w9) : Go mX8_dropBy 23 [(0, eR 33), (1, (0, px)), (2, (0, py)), (3, (0, h)), (4, (0, 0)), (5, (0, (0 + 2) % 4)), (6, (0, y)), (7, (0, x))] [] w r w9 := by
  obtain ⟨⟨c1, c2, c3, c4, c5, c6, c7, c8, c9, c10⟩, c11, c12, c13⟩ := id hM
  refine go_iload (eD DX8_dropBy 14 rfl) rfl (go_aload_n (eD DX8_dropBy 15 rfl) rfl rfl (go_getI (kz := 24) (eD DX8_dropBy 16 rfl) fX8_216 (by decide) rfl rfl rfl (?_)))
  by_cases h1 : (w 33 24) < x
  · refine go_icmp_gtT (tgt := 124) (eD DX8_dropBy 17 rfl) rfl (by omega) (show eI (w 33 24) from by omega) h1 ?_
    exact go_iinc (eD DX8_dropBy 62 rfl) rfl (by decide) (go_goto (tgt := 11) (eD DX8_dropBy 63 rfl) rfl (Go.pick [1, 2, 3, 4, 5, 6, 0] rfl (k1 h1)))
  · refine go_icmp_gtF (tgt := 124) (eD DX8_dropBy 17 rfl) rfl (by omega) (show eI (w 33 24) from by omega) h1 ?_
    refine go_aload_n (eD DX8_dropBy 18 rfl) rfl rfl (go_iload (eD DX8_dropBy 19 rfl) rfl (go_iload (eD DX8_dropBy 20 rfl) rfl (go_callV (ci := 8) [(0, x), (0, y)] (eD DX8_dropBy 21 rfl) ⟨eMem 6 75 rfl rfl, sX8_isInside⟩ ⟨Nat.le_of_ble_eq_true rfl, Nat.le_of_ble_eq_true rfl⟩ (by decide) ⟨rfl, by decide, _, rfl, rfl⟩ rfl rfl (Nat.le_of_ble_eq_true rfl) (y_b_X8_isInside w x y (by omega) (by omega) (by assumption)) (?_))))
    by_cases h2 : insM w x y
    · refine go_if_neT (tgt := 118) (eD DX8_dropBy 22 rfl) rfl (eI_pI _) (pI1 h2) ?_
      exact go_iinc (eD DX8_dropBy 60 rfl) rfl (by decide) (go_goto (tgt := 23) (eD DX8_dropBy 61 rfl) rfl (Go.pick [1, 2, 3, 4, 5, 6, 7, 0] rfl (k2 h1 h2)))
    · refine go_if_neF (tgt := 118) (eD DX8_dropBy 22 rfl) rfl (eI_pI _) (not_not_intro (pI0 h2)) ?_
      refine go_aload_n (eD DX8_dropBy 23 rfl) rfl rfl (go_iload (eD DX8_dropBy 24 rfl) rfl (go_iload (eD DX8_dropBy 25 rfl) rfl (?_)))
      refine go_callS [(0, x), (0, (0 + 2) % 4)] (eD DX8_dropBy 26 rfl) ⟨eMem 6 79 rfl rfl, sX8_besideX⟩ ⟨Nat.le_of_ble_eq_true rfl, Nat.le_of_ble_eq_true rfl⟩ rfl rfl (Nat.le_of_ble_eq_true rfl) (Cal.as (zX8_besideX w x ((0 + 2) % 4) (show eI ((0 + 2) % 4) from by decide) ) (r2 := some (0, x)) (w2 := w) (by (try simp only [rX8_besideX, if_neg h1, if_neg h2]) <;> (try rfl)) rfl) (?_)
      refine go_iload (eD DX8_dropBy 27 rfl) rfl (go_iload (eD DX8_dropBy 28 rfl) rfl (?_))
      refine go_callS [(0, y), (0, (0 + 2) % 4)] (eD DX8_dropBy 29 rfl) ⟨eMem 6 82 rfl rfl, sX8_besideY⟩ ⟨Nat.le_of_ble_eq_true rfl, Nat.le_of_ble_eq_true rfl⟩ rfl rfl (Nat.le_of_ble_eq_true rfl) (Cal.as (zX8_besideY w y ((0 + 2) % 4) (show eI ((0 + 2) % 4) from by decide) ) (r2 := some (0, y + 1)) (w2 := w) (by (try simp only [rX8_besideY, if_neg h1, if_neg h2]) <;> (try rfl)) rfl) (?_)
      refine go_callV (ci := 8) [(0, x), (0, y + 1)] (eD DX8_dropBy 30 rfl) ⟨eMem 6 75 rfl rfl, sX8_isInside⟩ ⟨Nat.le_of_ble_eq_true rfl, Nat.le_of_ble_eq_true rfl⟩ (by decide) ⟨rfl, by decide, _, rfl, rfl⟩ rfl rfl (Nat.le_of_ble_eq_true rfl) (y_b_X8_isInside w x (y + 1) (by omega) (by omega) (by assumption)) (?_)
      by_cases h3 : insM w x (y + 1)
      · refine go_if_neT (tgt := 67) (eD DX8_dropBy 31 rfl) rfl (eI_pI _) (pI1 h3) ?_
        refine go_aload_n (eD DX8_dropBy 33 rfl) rfl rfl (go_iload_n (eD DX8_dropBy 34 rfl) rfl rfl (go_iload_n (eD DX8_dropBy 35 rfl) rfl rfl (go_iload (eD DX8_dropBy 36 rfl) rfl (go_iload (eD DX8_dropBy 37 rfl) rfl (go_callV (ci := 8) [(0, px), (0, py), (0, x), (0, y)] (eD DX8_dropBy 38 rfl) ⟨eMem 6 177 rfl rfl, sX8_reachOf⟩ ⟨Nat.le_of_ble_eq_true rfl, Nat.le_of_ble_eq_true rfl⟩ (by decide) ⟨rfl, by decide, _, rfl, rfl⟩ rfl rfl (Nat.le_of_ble_eq_true rfl) (y_X8_reachOf w px py x y hsp (by omega) (by omega)) (go_iload_n (eD DX8_dropBy 39 rfl) rfl rfl (?_)))))))
        by_cases h4 : (rcQ (qM w) px py x y) = h
        · refine go_icmp_neF (tgt := 118) (eD DX8_dropBy 40 rfl) rfl (show eI (rcQ (qM w) px py x y) from by omega) (by omega) (not_not_intro h4) ?_
          refine go_aload_n (eD DX8_dropBy 41 rfl) rfl rfl (go_iload_n (eD DX8_dropBy 42 rfl) rfl rfl (go_iload_n (eD DX8_dropBy 43 rfl) rfl rfl (go_iload (eD DX8_dropBy 44 rfl) rfl (go_iload (eD DX8_dropBy 45 rfl) rfl (go_iload (eD DX8_dropBy 46 rfl) rfl (go_callV (ci := 8) [(0, px), (0, py), (0, x), (0, y), (0, 0)] (eD DX8_dropBy 47 rfl) ⟨eMem 6 181 rfl rfl, sX8_timeOf⟩ ⟨Nat.le_of_ble_eq_true rfl, Nat.le_of_ble_eq_true rfl⟩ (by decide) ⟨rfl, by decide, _, rfl, rfl⟩ rfl rfl (Nat.le_of_ble_eq_true rfl) (y_X8_timeOf w px py x y 0 hsp (by omega) (by omega) (by decide)) (go_iload_n (eD DX8_dropBy 48 rfl) rfl rfl (?_))))))))
          by_cases h5 : (tmQ (qM w) px py x y 0) = h
          · refine go_icmp_neF (tgt := 118) (eD DX8_dropBy 49 rfl) rfl (show eI (tmQ (qM w) px py x y 0) from by omega) (by omega) (not_not_intro h5) ?_
            refine go_aload_n (eD DX8_dropBy 50 rfl) rfl rfl (go_iload (eD DX8_dropBy 51 rfl) rfl (go_iload (eD DX8_dropBy 52 rfl) rfl (?_)))
            refine go_callS [(0, x), (0, (0 + 2) % 4)] (eD DX8_dropBy 53 rfl) ⟨eMem 6 79 rfl rfl, sX8_besideX⟩ ⟨Nat.le_of_ble_eq_true rfl, Nat.le_of_ble_eq_true rfl⟩ rfl rfl (Nat.le_of_ble_eq_true rfl) (Cal.as (zX8_besideX w x ((0 + 2) % 4) (show eI ((0 + 2) % 4) from by decide) ) (r2 := some (0, x)) (w2 := w) (by (try simp only [rX8_besideX, if_neg h1, if_neg h2, if_pos h3, if_pos h4, if_pos h5]) <;> (try rfl)) rfl) (?_)
            refine go_iload (eD DX8_dropBy 54 rfl) rfl (go_iload (eD DX8_dropBy 55 rfl) rfl (?_))
            refine go_callS [(0, y), (0, (0 + 2) % 4)] (eD DX8_dropBy 56 rfl) ⟨eMem 6 82 rfl rfl, sX8_besideY⟩ ⟨Nat.le_of_ble_eq_true rfl, Nat.le_of_ble_eq_true rfl⟩ rfl rfl (Nat.le_of_ble_eq_true rfl) (Cal.as (zX8_besideY w y ((0 + 2) % 4) (show eI ((0 + 2) % 4) from by decide) ) (r2 := some (0, y + 1)) (w2 := w) (by (try simp only [rX8_besideY, if_neg h1, if_neg h2, if_pos h3, if_pos h4, if_pos h5]) <;> (try rfl)) rfl) (?_)
            rw [(k3 h1 h2 h3 h4 h5).1, (k3 h1 h2 h3 h4 h5).2]
            exact go_iload (eD DX8_dropBy 57 rfl) rfl (go_callV (ci := 8) [(0, x), (0, y + 1), (0, 0)] (eD DX8_dropBy 58 rfl) ⟨eMem 6 157 rfl rfl, sX8_wallWith⟩ ⟨Nat.le_of_ble_eq_true rfl, Nat.le_of_ble_eq_true rfl⟩ (by decide) ⟨rfl, by decide, _, rfl, rfl⟩ rfl rfl (Nat.le_of_ble_eq_true rfl) (g1 (by assumption) (by assumption) (by assumption)) (go_iret (eD DX8_dropBy 59 rfl) rfl))
          · refine go_icmp_neT (tgt := 118) (eD DX8_dropBy 49 rfl) rfl (show eI (tmQ (qM w) px py x y 0) from by omega) (by omega) h5 ?_
            exact go_iinc (eD DX8_dropBy 60 rfl) rfl (by decide) (go_goto (tgt := 23) (eD DX8_dropBy 61 rfl) rfl (Go.pick [1, 2, 3, 4, 5, 6, 7, 0] rfl (k4 h1 h2 h3 h4 h5)))
        · refine go_icmp_neT (tgt := 118) (eD DX8_dropBy 40 rfl) rfl (show eI (rcQ (qM w) px py x y) from by omega) (by omega) h4 ?_
          exact go_iinc (eD DX8_dropBy 60 rfl) rfl (by decide) (go_goto (tgt := 23) (eD DX8_dropBy 61 rfl) rfl (Go.pick [1, 2, 3, 4, 5, 6, 7, 0] rfl (k5 h1 h2 h3 h4)))
      · refine go_if_neF (tgt := 67) (eD DX8_dropBy 31 rfl) rfl (eI_pI _) (not_not_intro (pI0 h3)) ?_
        exact go_goto (tgt := 118) (eD DX8_dropBy 32 rfl) rfl (go_iinc (eD DX8_dropBy 60 rfl) rfl (by decide) (go_goto (tgt := 23) (eD DX8_dropBy 61 rfl) rfl (Go.pick [1, 2, 3, 4, 5, 6, 7, 0] rfl (k6 h1 h2 h3))))
set_option maxHeartbeats 4000000 in
set_option maxRecDepth 20000 in
theorem tX8_dropBy1_0 {r : Option eV} {w9 : eW} (w : eW) (px py h : Int) (k1 : Go mX8_dropBy 11 [(0, eR 33), (1, (0, px)), (2, (0, py)), (3, (0, h)), (4, (0, 1)), (5, (0, (1 + 2) % 4)), (6, (0, (-1)))] [] w r w9) : Go mX8_dropBy 0 [(0, eR 33), (1, (0, px)), (2, (0, py)), (3, (0, h)), (4, (0, 1))] [] w r w9 := by
  exact go_iload (eD DX8_dropBy 0 rfl) rfl (go_iconst (eD DX8_dropBy 1 rfl) (go_iadd (eD DX8_dropBy 2 rfl) (go_iconst (eD DX8_dropBy 3 rfl) (go_irem (eD DX8_dropBy 4 rfl) (show eI (1 + 2) from by decide) (by decide) (show (0 : Int) ≤ (1 + 2) from by decide) (show (0 : Int) < 4 from by decide) (go_istore (eD DX8_dropBy 5 rfl) (by decide) (go_iconst (eD DX8_dropBy 6 rfl) (go_istore (eD DX8_dropBy 7 rfl) (by decide) (Go.pick [2, 3, 4, 5, 6, 1, 0] rfl (k1)))))))))
set_option maxHeartbeats 4000000 in
set_option maxRecDepth 20000 in
theorem tX8_dropBy1_11 {r : Option eV} {w9 : eW} (w : eW) (px py h y : Int) (hM : MB w) (hy : -1 ≤ y ∧ y ≤ 11) (k1 : (w 33 25) < y → r = some (0, (-1)) ∧ w9 = w) (k2 : ¬ ((w 33 25) < y) → Go mX8_dropBy 23 [(0, eR 33), (1, (0, px)), (2, (0, py)), (3, (0, h)), (4, (0, 1)), (5, (0, (1 + 2) % 4)), (6, (0, y)), (7, (0, (-1)))] [] w r w9) : Go mX8_dropBy 11 [(0, eR 33), (1, (0, px)), (2, (0, py)), (3, (0, h)), (4, (0, 1)), (5, (0, (1 + 2) % 4)), (6, (0, y))] [] w r w9 := by
  obtain ⟨⟨c1, c2, c3, c4, c5, c6, c7, c8, c9, c10⟩, c11, c12, c13⟩ := id hM
  refine go_iload (eD DX8_dropBy 8 rfl) rfl (go_aload_n (eD DX8_dropBy 9 rfl) rfl rfl (go_getI (kz := 25) (eD DX8_dropBy 10 rfl) fX8_219 (by decide) rfl rfl rfl (?_)))
  by_cases h1 : (w 33 25) < y
  · refine go_icmp_gtT (tgt := 130) (eD DX8_dropBy 11 rfl) rfl (by omega) (show eI (w 33 25) from by omega) h1 ?_
    rw [(k1 h1).1, (k1 h1).2]
    exact go_iconst (eD DX8_dropBy 64 rfl) (go_iret (eD DX8_dropBy 65 rfl) rfl)
  · refine go_icmp_gtF (tgt := 130) (eD DX8_dropBy 11 rfl) rfl (by omega) (show eI (w 33 25) from by omega) h1 ?_
    exact go_iconst (eD DX8_dropBy 12 rfl) (go_istore (eD DX8_dropBy 13 rfl) (by decide) (Go.pick [1, 2, 3, 4, 5, 6, 7, 0] rfl (k2 h1)))
set_option maxHeartbeats 4000000 in
set_option maxRecDepth 20000 in
theorem tX8_dropBy1_23 {r : Option eV} {w9 : eW} (w : eW) (px py h y x : Int) {ww : Int} (hM : MB w) (hsp : ∀ k, 140 ≤ k → k < 144 → 1 ≤ w 38 k ∧ w 38 k ≤ 9) (hp : 0 ≤ px ∧ px ≤ 56 ∧ 0 ≤ py ∧ py ≤ 40) (hh : eI h) (hy : -1 ≤ y ∧ y ≤ w 33 25) (hx : -1 ≤ x ∧ x ≤ 15) (hr : x ≤ w 33 24 → 0 ≤ rcQ (qM w) px py x y ∧ rcQ (qM w) px py x y ≤ 200000) (ht : x ≤ w 33 24 → 0 ≤ tmQ (qM w) px py x y 1 ∧ tmQ (qM w) px py x y 1 ≤ 200000) (g1 : ¬ w 33 24 < x → ¬ insM w x y → insM w (x - 1) (y) → Cal mX8_wallWith [eR 33, (0, x - 1), (0, y), (0, 1)] w (some (0, ww)) w) (k1 : (w 33 24) < x → Go mX8_dropBy 11 [(0, eR 33), (1, (0, px)), (2, (0, py)), (3, (0, h)), (4, (0, 1)), (5, (0, (1 + 2) % 4)), (6, (0, y + 1))] [] w r w9) (k2 : ¬ ((w 33 24) < x) → insM w x y → Go mX8_dropBy 23 [(0, eR 33), (1, (0, px)), (2, (0, py)), (3, (0, h)), (4, (0, 1)), (5, (0, (1 + 2) % 4)), (6, (0, y)), (7, (0, x + 1))] [] w r w9) (k3 : ¬ ((w 33 24) < x) → ¬ (insM w x y) → insM w (x - 1) y → (rcQ (qM w) px py x y) = h → (tmQ (qM w) px py x y 1) = h → r = some (0, ww) ∧ w9 = w) (k4 : ¬ ((w 33 24) < x) → ¬ (insM w x y) → insM w (x - 1) y → (rcQ (qM w) px py x y) = h → ¬ ((tmQ (qM w) px py x y 1) = h) → Go mX8_dropBy 23 [(0, eR 33), (1, (0, px)), (2, (0, py)), (3, (0, h)), (4, (0, 1)), (5, (0, (1 + 2) % 4)), (6, (0, y)), (7, (0, x + 1))] [] w r w9) (k5 : ¬ ((w 33 24) < x) → ¬ (insM w x y) → insM w (x - 1) y → ¬ ((rcQ (qM w) px py x y) = h) → Go mX8_dropBy 23 [(0, eR 33), (1, (0, px)), (2, (0, py)), (3, (0, h)), (4, (0, 1)), (5, (0, (1 + 2) % 4)), (6, (0, y)), (7, (0, x + 1))] [] w r w9) (k6 : ¬ ((w 33 24) < x) → ¬ (insM w x y) → ¬ (insM w (x - 1) y) → Go mX8_dropBy 23 [(0, eR 33), (1, (0, px)), (2, (0, py)), (3, (0, h)), (4, (0, 1)), (5, (0, (1 + 2) % 4)), (6, (0, y)), (7, (0, x + 1))] [] w r w9) : Go mX8_dropBy 23 [(0, eR 33), (1, (0, px)), (2, (0, py)), (3, (0, h)), (4, (0, 1)), (5, (0, (1 + 2) % 4)), (6, (0, y)), (7, (0, x))] [] w r w9 := by
  obtain ⟨⟨c1, c2, c3, c4, c5, c6, c7, c8, c9, c10⟩, c11, c12, c13⟩ := id hM
  refine go_iload (eD DX8_dropBy 14 rfl) rfl (go_aload_n (eD DX8_dropBy 15 rfl) rfl rfl (go_getI (kz := 24) (eD DX8_dropBy 16 rfl) fX8_216 (by decide) rfl rfl rfl (?_)))
  by_cases h1 : (w 33 24) < x
  · refine go_icmp_gtT (tgt := 124) (eD DX8_dropBy 17 rfl) rfl (by omega) (show eI (w 33 24) from by omega) h1 ?_
    exact go_iinc (eD DX8_dropBy 62 rfl) rfl (by decide) (go_goto (tgt := 11) (eD DX8_dropBy 63 rfl) rfl (Go.pick [1, 2, 3, 4, 5, 6, 0] rfl (k1 h1)))
  · refine go_icmp_gtF (tgt := 124) (eD DX8_dropBy 17 rfl) rfl (by omega) (show eI (w 33 24) from by omega) h1 ?_
    refine go_aload_n (eD DX8_dropBy 18 rfl) rfl rfl (go_iload (eD DX8_dropBy 19 rfl) rfl (go_iload (eD DX8_dropBy 20 rfl) rfl (go_callV (ci := 8) [(0, x), (0, y)] (eD DX8_dropBy 21 rfl) ⟨eMem 6 75 rfl rfl, sX8_isInside⟩ ⟨Nat.le_of_ble_eq_true rfl, Nat.le_of_ble_eq_true rfl⟩ (by decide) ⟨rfl, by decide, _, rfl, rfl⟩ rfl rfl (Nat.le_of_ble_eq_true rfl) (y_b_X8_isInside w x y (by omega) (by omega) (by assumption)) (?_))))
    by_cases h2 : insM w x y
    · refine go_if_neT (tgt := 118) (eD DX8_dropBy 22 rfl) rfl (eI_pI _) (pI1 h2) ?_
      exact go_iinc (eD DX8_dropBy 60 rfl) rfl (by decide) (go_goto (tgt := 23) (eD DX8_dropBy 61 rfl) rfl (Go.pick [1, 2, 3, 4, 5, 6, 7, 0] rfl (k2 h1 h2)))
    · refine go_if_neF (tgt := 118) (eD DX8_dropBy 22 rfl) rfl (eI_pI _) (not_not_intro (pI0 h2)) ?_
      refine go_aload_n (eD DX8_dropBy 23 rfl) rfl rfl (go_iload (eD DX8_dropBy 24 rfl) rfl (go_iload (eD DX8_dropBy 25 rfl) rfl (?_)))
      refine go_callS [(0, x), (0, (1 + 2) % 4)] (eD DX8_dropBy 26 rfl) ⟨eMem 6 79 rfl rfl, sX8_besideX⟩ ⟨Nat.le_of_ble_eq_true rfl, Nat.le_of_ble_eq_true rfl⟩ rfl rfl (Nat.le_of_ble_eq_true rfl) (Cal.as (zX8_besideX w x ((1 + 2) % 4) (show eI ((1 + 2) % 4) from by decide) ) (r2 := some (0, x - 1)) (w2 := w) (by (try simp only [rX8_besideX, if_neg h1, if_neg h2]) <;> (try rfl)) rfl) (?_)
      refine go_iload (eD DX8_dropBy 27 rfl) rfl (go_iload (eD DX8_dropBy 28 rfl) rfl (?_))
      refine go_callS [(0, y), (0, (1 + 2) % 4)] (eD DX8_dropBy 29 rfl) ⟨eMem 6 82 rfl rfl, sX8_besideY⟩ ⟨Nat.le_of_ble_eq_true rfl, Nat.le_of_ble_eq_true rfl⟩ rfl rfl (Nat.le_of_ble_eq_true rfl) (Cal.as (zX8_besideY w y ((1 + 2) % 4) (show eI ((1 + 2) % 4) from by decide) ) (r2 := some (0, y)) (w2 := w) (by (try simp only [rX8_besideY, if_neg h1, if_neg h2]) <;> (try rfl)) rfl) (?_)
      refine go_callV (ci := 8) [(0, x - 1), (0, y)] (eD DX8_dropBy 30 rfl) ⟨eMem 6 75 rfl rfl, sX8_isInside⟩ ⟨Nat.le_of_ble_eq_true rfl, Nat.le_of_ble_eq_true rfl⟩ (by decide) ⟨rfl, by decide, _, rfl, rfl⟩ rfl rfl (Nat.le_of_ble_eq_true rfl) (y_b_X8_isInside w (x - 1) y (by omega) (by omega) (by assumption)) (?_)
      by_cases h3 : insM w (x - 1) y
      · refine go_if_neT (tgt := 67) (eD DX8_dropBy 31 rfl) rfl (eI_pI _) (pI1 h3) ?_
        refine go_aload_n (eD DX8_dropBy 33 rfl) rfl rfl (go_iload_n (eD DX8_dropBy 34 rfl) rfl rfl (go_iload_n (eD DX8_dropBy 35 rfl) rfl rfl (go_iload (eD DX8_dropBy 36 rfl) rfl (go_iload (eD DX8_dropBy 37 rfl) rfl (go_callV (ci := 8) [(0, px), (0, py), (0, x), (0, y)] (eD DX8_dropBy 38 rfl) ⟨eMem 6 177 rfl rfl, sX8_reachOf⟩ ⟨Nat.le_of_ble_eq_true rfl, Nat.le_of_ble_eq_true rfl⟩ (by decide) ⟨rfl, by decide, _, rfl, rfl⟩ rfl rfl (Nat.le_of_ble_eq_true rfl) (y_X8_reachOf w px py x y hsp (by omega) (by omega)) (go_iload_n (eD DX8_dropBy 39 rfl) rfl rfl (?_)))))))
        by_cases h4 : (rcQ (qM w) px py x y) = h
        · refine go_icmp_neF (tgt := 118) (eD DX8_dropBy 40 rfl) rfl (show eI (rcQ (qM w) px py x y) from by omega) (by omega) (not_not_intro h4) ?_
          refine go_aload_n (eD DX8_dropBy 41 rfl) rfl rfl (go_iload_n (eD DX8_dropBy 42 rfl) rfl rfl (go_iload_n (eD DX8_dropBy 43 rfl) rfl rfl (go_iload (eD DX8_dropBy 44 rfl) rfl (go_iload (eD DX8_dropBy 45 rfl) rfl (go_iload (eD DX8_dropBy 46 rfl) rfl (go_callV (ci := 8) [(0, px), (0, py), (0, x), (0, y), (0, 1)] (eD DX8_dropBy 47 rfl) ⟨eMem 6 181 rfl rfl, sX8_timeOf⟩ ⟨Nat.le_of_ble_eq_true rfl, Nat.le_of_ble_eq_true rfl⟩ (by decide) ⟨rfl, by decide, _, rfl, rfl⟩ rfl rfl (Nat.le_of_ble_eq_true rfl) (y_X8_timeOf w px py x y 1 hsp (by omega) (by omega) (by decide)) (go_iload_n (eD DX8_dropBy 48 rfl) rfl rfl (?_))))))))
          by_cases h5 : (tmQ (qM w) px py x y 1) = h
          · refine go_icmp_neF (tgt := 118) (eD DX8_dropBy 49 rfl) rfl (show eI (tmQ (qM w) px py x y 1) from by omega) (by omega) (not_not_intro h5) ?_
            refine go_aload_n (eD DX8_dropBy 50 rfl) rfl rfl (go_iload (eD DX8_dropBy 51 rfl) rfl (go_iload (eD DX8_dropBy 52 rfl) rfl (?_)))
            refine go_callS [(0, x), (0, (1 + 2) % 4)] (eD DX8_dropBy 53 rfl) ⟨eMem 6 79 rfl rfl, sX8_besideX⟩ ⟨Nat.le_of_ble_eq_true rfl, Nat.le_of_ble_eq_true rfl⟩ rfl rfl (Nat.le_of_ble_eq_true rfl) (Cal.as (zX8_besideX w x ((1 + 2) % 4) (show eI ((1 + 2) % 4) from by decide) ) (r2 := some (0, x - 1)) (w2 := w) (by (try simp only [rX8_besideX, if_neg h1, if_neg h2, if_pos h3, if_pos h4, if_pos h5]) <;> (try rfl)) rfl) (?_)
            refine go_iload (eD DX8_dropBy 54 rfl) rfl (go_iload (eD DX8_dropBy 55 rfl) rfl (?_))
            refine go_callS [(0, y), (0, (1 + 2) % 4)] (eD DX8_dropBy 56 rfl) ⟨eMem 6 82 rfl rfl, sX8_besideY⟩ ⟨Nat.le_of_ble_eq_true rfl, Nat.le_of_ble_eq_true rfl⟩ rfl rfl (Nat.le_of_ble_eq_true rfl) (Cal.as (zX8_besideY w y ((1 + 2) % 4) (show eI ((1 + 2) % 4) from by decide) ) (r2 := some (0, y)) (w2 := w) (by (try simp only [rX8_besideY, if_neg h1, if_neg h2, if_pos h3, if_pos h4, if_pos h5]) <;> (try rfl)) rfl) (?_)
            rw [(k3 h1 h2 h3 h4 h5).1, (k3 h1 h2 h3 h4 h5).2]
            exact go_iload (eD DX8_dropBy 57 rfl) rfl (go_callV (ci := 8) [(0, x - 1), (0, y), (0, 1)] (eD DX8_dropBy 58 rfl) ⟨eMem 6 157 rfl rfl, sX8_wallWith⟩ ⟨Nat.le_of_ble_eq_true rfl, Nat.le_of_ble_eq_true rfl⟩ (by decide) ⟨rfl, by decide, _, rfl, rfl⟩ rfl rfl (Nat.le_of_ble_eq_true rfl) (g1 (by assumption) (by assumption) (by assumption)) (go_iret (eD DX8_dropBy 59 rfl) rfl))
          · refine go_icmp_neT (tgt := 118) (eD DX8_dropBy 49 rfl) rfl (show eI (tmQ (qM w) px py x y 1) from by omega) (by omega) h5 ?_
            exact go_iinc (eD DX8_dropBy 60 rfl) rfl (by decide) (go_goto (tgt := 23) (eD DX8_dropBy 61 rfl) rfl (Go.pick [1, 2, 3, 4, 5, 6, 7, 0] rfl (k4 h1 h2 h3 h4 h5)))
        · refine go_icmp_neT (tgt := 118) (eD DX8_dropBy 40 rfl) rfl (show eI (rcQ (qM w) px py x y) from by omega) (by omega) h4 ?_
          exact go_iinc (eD DX8_dropBy 60 rfl) rfl (by decide) (go_goto (tgt := 23) (eD DX8_dropBy 61 rfl) rfl (Go.pick [1, 2, 3, 4, 5, 6, 7, 0] rfl (k5 h1 h2 h3 h4)))
      · refine go_if_neF (tgt := 67) (eD DX8_dropBy 31 rfl) rfl (eI_pI _) (not_not_intro (pI0 h3)) ?_
        exact go_goto (tgt := 118) (eD DX8_dropBy 32 rfl) rfl (go_iinc (eD DX8_dropBy 60 rfl) rfl (by decide) (go_goto (tgt := 23) (eD DX8_dropBy 61 rfl) rfl (Go.pick [1, 2, 3, 4, 5, 6, 7, 0] rfl (k6 h1 h2 h3))))
set_option maxHeartbeats 4000000 in
set_option maxRecDepth 20000 in
theorem tX8_dropBy2_0 {r : Option eV} {w9 : eW} (w : eW) (px py h : Int) (k1 : Go mX8_dropBy 11 [(0, eR 33), (1, (0, px)), (2, (0, py)), (3, (0, h)), (4, (0, 2)), (5, (0, (2 + 2) % 4)), (6, (0, (-1)))] [] w r w9) : Go mX8_dropBy 0 [(0, eR 33), (1, (0, px)), (2, (0, py)), (3, (0, h)), (4, (0, 2))] [] w r w9 := by
  exact go_iload (eD DX8_dropBy 0 rfl) rfl (go_iconst (eD DX8_dropBy 1 rfl) (go_iadd (eD DX8_dropBy 2 rfl) (go_iconst (eD DX8_dropBy 3 rfl) (go_irem (eD DX8_dropBy 4 rfl) (show eI (2 + 2) from by decide) (by decide) (show (0 : Int) ≤ (2 + 2) from by decide) (show (0 : Int) < 4 from by decide) (go_istore (eD DX8_dropBy 5 rfl) (by decide) (go_iconst (eD DX8_dropBy 6 rfl) (go_istore (eD DX8_dropBy 7 rfl) (by decide) (Go.pick [2, 3, 4, 5, 6, 1, 0] rfl (k1)))))))))
set_option maxHeartbeats 4000000 in
set_option maxRecDepth 20000 in
theorem tX8_dropBy2_11 {r : Option eV} {w9 : eW} (w : eW) (px py h y : Int) (hM : MB w) (hy : -1 ≤ y ∧ y ≤ 11) (k1 : (w 33 25) < y → r = some (0, (-1)) ∧ w9 = w) (k2 : ¬ ((w 33 25) < y) → Go mX8_dropBy 23 [(0, eR 33), (1, (0, px)), (2, (0, py)), (3, (0, h)), (4, (0, 2)), (5, (0, (2 + 2) % 4)), (6, (0, y)), (7, (0, (-1)))] [] w r w9) : Go mX8_dropBy 11 [(0, eR 33), (1, (0, px)), (2, (0, py)), (3, (0, h)), (4, (0, 2)), (5, (0, (2 + 2) % 4)), (6, (0, y))] [] w r w9 := by
  obtain ⟨⟨c1, c2, c3, c4, c5, c6, c7, c8, c9, c10⟩, c11, c12, c13⟩ := id hM
  refine go_iload (eD DX8_dropBy 8 rfl) rfl (go_aload_n (eD DX8_dropBy 9 rfl) rfl rfl (go_getI (kz := 25) (eD DX8_dropBy 10 rfl) fX8_219 (by decide) rfl rfl rfl (?_)))
  by_cases h1 : (w 33 25) < y
  · refine go_icmp_gtT (tgt := 130) (eD DX8_dropBy 11 rfl) rfl (by omega) (show eI (w 33 25) from by omega) h1 ?_
    rw [(k1 h1).1, (k1 h1).2]
    exact go_iconst (eD DX8_dropBy 64 rfl) (go_iret (eD DX8_dropBy 65 rfl) rfl)
  · refine go_icmp_gtF (tgt := 130) (eD DX8_dropBy 11 rfl) rfl (by omega) (show eI (w 33 25) from by omega) h1 ?_
    exact go_iconst (eD DX8_dropBy 12 rfl) (go_istore (eD DX8_dropBy 13 rfl) (by decide) (Go.pick [1, 2, 3, 4, 5, 6, 7, 0] rfl (k2 h1)))
set_option maxHeartbeats 4000000 in
set_option maxRecDepth 20000 in
theorem tX8_dropBy2_23 {r : Option eV} {w9 : eW} (w : eW) (px py h y x : Int) {ww : Int} (hM : MB w) (hsp : ∀ k, 140 ≤ k → k < 144 → 1 ≤ w 38 k ∧ w 38 k ≤ 9) (hp : 0 ≤ px ∧ px ≤ 56 ∧ 0 ≤ py ∧ py ≤ 40) (hh : eI h) (hy : -1 ≤ y ∧ y ≤ w 33 25) (hx : -1 ≤ x ∧ x ≤ 15) (hr : x ≤ w 33 24 → 0 ≤ rcQ (qM w) px py x y ∧ rcQ (qM w) px py x y ≤ 200000) (ht : x ≤ w 33 24 → 0 ≤ tmQ (qM w) px py x y 2 ∧ tmQ (qM w) px py x y 2 ≤ 200000) (g1 : ¬ w 33 24 < x → ¬ insM w x y → insM w (x) (y - 1) → Cal mX8_wallWith [eR 33, (0, x), (0, y - 1), (0, 2)] w (some (0, ww)) w) (k1 : (w 33 24) < x → Go mX8_dropBy 11 [(0, eR 33), (1, (0, px)), (2, (0, py)), (3, (0, h)), (4, (0, 2)), (5, (0, (2 + 2) % 4)), (6, (0, y + 1))] [] w r w9) (k2 : ¬ ((w 33 24) < x) → insM w x y → Go mX8_dropBy 23 [(0, eR 33), (1, (0, px)), (2, (0, py)), (3, (0, h)), (4, (0, 2)), (5, (0, (2 + 2) % 4)), (6, (0, y)), (7, (0, x + 1))] [] w r w9) (k3 : ¬ ((w 33 24) < x) → ¬ (insM w x y) → insM w x (y - 1) → (rcQ (qM w) px py x y) = h → (tmQ (qM w) px py x y 2) = h → r = some (0, ww) ∧ w9 = w) (k4 : ¬ ((w 33 24) < x) → ¬ (insM w x y) → insM w x (y - 1) → (rcQ (qM w) px py x y) = h → ¬ ((tmQ (qM w) px py x y 2) = h) → Go mX8_dropBy 23 [(0, eR 33), (1, (0, px)), (2, (0, py)), (3, (0, h)), (4, (0, 2)), (5, (0, (2 + 2) % 4)), (6, (0, y)), (7, (0, x + 1))] [] w r w9) (k5 : ¬ ((w 33 24) < x) → ¬ (insM w x y) → insM w x (y - 1) → ¬ ((rcQ (qM w) px py x y) = h) → Go mX8_dropBy 23 [(0, eR 33), (1, (0, px)), (2, (0, py)), (3, (0, h)), (4, (0, 2)), (5, (0, (2 + 2) % 4)), (6, (0, y)), (7, (0, x + 1))] [] w r w9) (k6 : ¬ ((w 33 24) < x) → ¬ (insM w x y) → ¬ (insM w x (y - 1)) → Go mX8_dropBy 23 [(0, eR 33), (1, (0, px)), (2, (0, py)), (3, (0, h)), (4, (0, 2)), (5, (0, (2 + 2) % 4)), (6, (0, y)), (7, (0, x + 1))] [] w r w9) : Go mX8_dropBy 23 [(0, eR 33), (1, (0, px)), (2, (0, py)), (3, (0, h)), (4, (0, 2)), (5, (0, (2 + 2) % 4)), (6, (0, y)), (7, (0, x))] [] w r w9 := by
  obtain ⟨⟨c1, c2, c3, c4, c5, c6, c7, c8, c9, c10⟩, c11, c12, c13⟩ := id hM
  refine go_iload (eD DX8_dropBy 14 rfl) rfl (go_aload_n (eD DX8_dropBy 15 rfl) rfl rfl (go_getI (kz := 24) (eD DX8_dropBy 16 rfl) fX8_216 (by decide) rfl rfl rfl (?_)))
  by_cases h1 : (w 33 24) < x
  · refine go_icmp_gtT (tgt := 124) (eD DX8_dropBy 17 rfl) rfl (by omega) (show eI (w 33 24) from by omega) h1 ?_
    exact go_iinc (eD DX8_dropBy 62 rfl) rfl (by decide) (go_goto (tgt := 11) (eD DX8_dropBy 63 rfl) rfl (Go.pick [1, 2, 3, 4, 5, 6, 0] rfl (k1 h1)))
  · refine go_icmp_gtF (tgt := 124) (eD DX8_dropBy 17 rfl) rfl (by omega) (show eI (w 33 24) from by omega) h1 ?_
    refine go_aload_n (eD DX8_dropBy 18 rfl) rfl rfl (go_iload (eD DX8_dropBy 19 rfl) rfl (go_iload (eD DX8_dropBy 20 rfl) rfl (go_callV (ci := 8) [(0, x), (0, y)] (eD DX8_dropBy 21 rfl) ⟨eMem 6 75 rfl rfl, sX8_isInside⟩ ⟨Nat.le_of_ble_eq_true rfl, Nat.le_of_ble_eq_true rfl⟩ (by decide) ⟨rfl, by decide, _, rfl, rfl⟩ rfl rfl (Nat.le_of_ble_eq_true rfl) (y_b_X8_isInside w x y (by omega) (by omega) (by assumption)) (?_))))
    by_cases h2 : insM w x y
    · refine go_if_neT (tgt := 118) (eD DX8_dropBy 22 rfl) rfl (eI_pI _) (pI1 h2) ?_
      exact go_iinc (eD DX8_dropBy 60 rfl) rfl (by decide) (go_goto (tgt := 23) (eD DX8_dropBy 61 rfl) rfl (Go.pick [1, 2, 3, 4, 5, 6, 7, 0] rfl (k2 h1 h2)))
    · refine go_if_neF (tgt := 118) (eD DX8_dropBy 22 rfl) rfl (eI_pI _) (not_not_intro (pI0 h2)) ?_
      refine go_aload_n (eD DX8_dropBy 23 rfl) rfl rfl (go_iload (eD DX8_dropBy 24 rfl) rfl (go_iload (eD DX8_dropBy 25 rfl) rfl (?_)))
      refine go_callS [(0, x), (0, (2 + 2) % 4)] (eD DX8_dropBy 26 rfl) ⟨eMem 6 79 rfl rfl, sX8_besideX⟩ ⟨Nat.le_of_ble_eq_true rfl, Nat.le_of_ble_eq_true rfl⟩ rfl rfl (Nat.le_of_ble_eq_true rfl) (Cal.as (zX8_besideX w x ((2 + 2) % 4) (show eI ((2 + 2) % 4) from by decide) ) (r2 := some (0, x)) (w2 := w) (by (try simp only [rX8_besideX, if_neg h1, if_neg h2]) <;> (try rfl)) rfl) (?_)
      refine go_iload (eD DX8_dropBy 27 rfl) rfl (go_iload (eD DX8_dropBy 28 rfl) rfl (?_))
      refine go_callS [(0, y), (0, (2 + 2) % 4)] (eD DX8_dropBy 29 rfl) ⟨eMem 6 82 rfl rfl, sX8_besideY⟩ ⟨Nat.le_of_ble_eq_true rfl, Nat.le_of_ble_eq_true rfl⟩ rfl rfl (Nat.le_of_ble_eq_true rfl) (Cal.as (zX8_besideY w y ((2 + 2) % 4) (show eI ((2 + 2) % 4) from by decide) ) (r2 := some (0, y - 1)) (w2 := w) (by (try simp only [rX8_besideY, if_neg h1, if_neg h2]) <;> (try rfl)) rfl) (?_)
      refine go_callV (ci := 8) [(0, x), (0, y - 1)] (eD DX8_dropBy 30 rfl) ⟨eMem 6 75 rfl rfl, sX8_isInside⟩ ⟨Nat.le_of_ble_eq_true rfl, Nat.le_of_ble_eq_true rfl⟩ (by decide) ⟨rfl, by decide, _, rfl, rfl⟩ rfl rfl (Nat.le_of_ble_eq_true rfl) (y_b_X8_isInside w x (y - 1) (by omega) (by omega) (by assumption)) (?_)
      by_cases h3 : insM w x (y - 1)
      · refine go_if_neT (tgt := 67) (eD DX8_dropBy 31 rfl) rfl (eI_pI _) (pI1 h3) ?_
        refine go_aload_n (eD DX8_dropBy 33 rfl) rfl rfl (go_iload_n (eD DX8_dropBy 34 rfl) rfl rfl (go_iload_n (eD DX8_dropBy 35 rfl) rfl rfl (go_iload (eD DX8_dropBy 36 rfl) rfl (go_iload (eD DX8_dropBy 37 rfl) rfl (go_callV (ci := 8) [(0, px), (0, py), (0, x), (0, y)] (eD DX8_dropBy 38 rfl) ⟨eMem 6 177 rfl rfl, sX8_reachOf⟩ ⟨Nat.le_of_ble_eq_true rfl, Nat.le_of_ble_eq_true rfl⟩ (by decide) ⟨rfl, by decide, _, rfl, rfl⟩ rfl rfl (Nat.le_of_ble_eq_true rfl) (y_X8_reachOf w px py x y hsp (by omega) (by omega)) (go_iload_n (eD DX8_dropBy 39 rfl) rfl rfl (?_)))))))
        by_cases h4 : (rcQ (qM w) px py x y) = h
        · refine go_icmp_neF (tgt := 118) (eD DX8_dropBy 40 rfl) rfl (show eI (rcQ (qM w) px py x y) from by omega) (by omega) (not_not_intro h4) ?_
          refine go_aload_n (eD DX8_dropBy 41 rfl) rfl rfl (go_iload_n (eD DX8_dropBy 42 rfl) rfl rfl (go_iload_n (eD DX8_dropBy 43 rfl) rfl rfl (go_iload (eD DX8_dropBy 44 rfl) rfl (go_iload (eD DX8_dropBy 45 rfl) rfl (go_iload (eD DX8_dropBy 46 rfl) rfl (go_callV (ci := 8) [(0, px), (0, py), (0, x), (0, y), (0, 2)] (eD DX8_dropBy 47 rfl) ⟨eMem 6 181 rfl rfl, sX8_timeOf⟩ ⟨Nat.le_of_ble_eq_true rfl, Nat.le_of_ble_eq_true rfl⟩ (by decide) ⟨rfl, by decide, _, rfl, rfl⟩ rfl rfl (Nat.le_of_ble_eq_true rfl) (y_X8_timeOf w px py x y 2 hsp (by omega) (by omega) (by decide)) (go_iload_n (eD DX8_dropBy 48 rfl) rfl rfl (?_))))))))
          by_cases h5 : (tmQ (qM w) px py x y 2) = h
          · refine go_icmp_neF (tgt := 118) (eD DX8_dropBy 49 rfl) rfl (show eI (tmQ (qM w) px py x y 2) from by omega) (by omega) (not_not_intro h5) ?_
            refine go_aload_n (eD DX8_dropBy 50 rfl) rfl rfl (go_iload (eD DX8_dropBy 51 rfl) rfl (go_iload (eD DX8_dropBy 52 rfl) rfl (?_)))
            refine go_callS [(0, x), (0, (2 + 2) % 4)] (eD DX8_dropBy 53 rfl) ⟨eMem 6 79 rfl rfl, sX8_besideX⟩ ⟨Nat.le_of_ble_eq_true rfl, Nat.le_of_ble_eq_true rfl⟩ rfl rfl (Nat.le_of_ble_eq_true rfl) (Cal.as (zX8_besideX w x ((2 + 2) % 4) (show eI ((2 + 2) % 4) from by decide) ) (r2 := some (0, x)) (w2 := w) (by (try simp only [rX8_besideX, if_neg h1, if_neg h2, if_pos h3, if_pos h4, if_pos h5]) <;> (try rfl)) rfl) (?_)
            refine go_iload (eD DX8_dropBy 54 rfl) rfl (go_iload (eD DX8_dropBy 55 rfl) rfl (?_))
            refine go_callS [(0, y), (0, (2 + 2) % 4)] (eD DX8_dropBy 56 rfl) ⟨eMem 6 82 rfl rfl, sX8_besideY⟩ ⟨Nat.le_of_ble_eq_true rfl, Nat.le_of_ble_eq_true rfl⟩ rfl rfl (Nat.le_of_ble_eq_true rfl) (Cal.as (zX8_besideY w y ((2 + 2) % 4) (show eI ((2 + 2) % 4) from by decide) ) (r2 := some (0, y - 1)) (w2 := w) (by (try simp only [rX8_besideY, if_neg h1, if_neg h2, if_pos h3, if_pos h4, if_pos h5]) <;> (try rfl)) rfl) (?_)
            rw [(k3 h1 h2 h3 h4 h5).1, (k3 h1 h2 h3 h4 h5).2]
            exact go_iload (eD DX8_dropBy 57 rfl) rfl (go_callV (ci := 8) [(0, x), (0, y - 1), (0, 2)] (eD DX8_dropBy 58 rfl) ⟨eMem 6 157 rfl rfl, sX8_wallWith⟩ ⟨Nat.le_of_ble_eq_true rfl, Nat.le_of_ble_eq_true rfl⟩ (by decide) ⟨rfl, by decide, _, rfl, rfl⟩ rfl rfl (Nat.le_of_ble_eq_true rfl) (g1 (by assumption) (by assumption) (by assumption)) (go_iret (eD DX8_dropBy 59 rfl) rfl))
          · refine go_icmp_neT (tgt := 118) (eD DX8_dropBy 49 rfl) rfl (show eI (tmQ (qM w) px py x y 2) from by omega) (by omega) h5 ?_
            exact go_iinc (eD DX8_dropBy 60 rfl) rfl (by decide) (go_goto (tgt := 23) (eD DX8_dropBy 61 rfl) rfl (Go.pick [1, 2, 3, 4, 5, 6, 7, 0] rfl (k4 h1 h2 h3 h4 h5)))
        · refine go_icmp_neT (tgt := 118) (eD DX8_dropBy 40 rfl) rfl (show eI (rcQ (qM w) px py x y) from by omega) (by omega) h4 ?_
          exact go_iinc (eD DX8_dropBy 60 rfl) rfl (by decide) (go_goto (tgt := 23) (eD DX8_dropBy 61 rfl) rfl (Go.pick [1, 2, 3, 4, 5, 6, 7, 0] rfl (k5 h1 h2 h3 h4)))
      · refine go_if_neF (tgt := 67) (eD DX8_dropBy 31 rfl) rfl (eI_pI _) (not_not_intro (pI0 h3)) ?_
        exact go_goto (tgt := 118) (eD DX8_dropBy 32 rfl) rfl (go_iinc (eD DX8_dropBy 60 rfl) rfl (by decide) (go_goto (tgt := 23) (eD DX8_dropBy 61 rfl) rfl (Go.pick [1, 2, 3, 4, 5, 6, 7, 0] rfl (k6 h1 h2 h3))))
set_option maxHeartbeats 4000000 in
set_option maxRecDepth 20000 in
theorem tX8_dropBy3_0 {r : Option eV} {w9 : eW} (w : eW) (px py h : Int) (k1 : Go mX8_dropBy 11 [(0, eR 33), (1, (0, px)), (2, (0, py)), (3, (0, h)), (4, (0, 3)), (5, (0, (3 + 2) % 4)), (6, (0, (-1)))] [] w r w9) : Go mX8_dropBy 0 [(0, eR 33), (1, (0, px)), (2, (0, py)), (3, (0, h)), (4, (0, 3))] [] w r w9 := by
  exact go_iload (eD DX8_dropBy 0 rfl) rfl (go_iconst (eD DX8_dropBy 1 rfl) (go_iadd (eD DX8_dropBy 2 rfl) (go_iconst (eD DX8_dropBy 3 rfl) (go_irem (eD DX8_dropBy 4 rfl) (show eI (3 + 2) from by decide) (by decide) (show (0 : Int) ≤ (3 + 2) from by decide) (show (0 : Int) < 4 from by decide) (go_istore (eD DX8_dropBy 5 rfl) (by decide) (go_iconst (eD DX8_dropBy 6 rfl) (go_istore (eD DX8_dropBy 7 rfl) (by decide) (Go.pick [2, 3, 4, 5, 6, 1, 0] rfl (k1)))))))))
set_option maxHeartbeats 4000000 in
set_option maxRecDepth 20000 in
theorem tX8_dropBy3_11 {r : Option eV} {w9 : eW} (w : eW) (px py h y : Int) (hM : MB w) (hy : -1 ≤ y ∧ y ≤ 11) (k1 : (w 33 25) < y → r = some (0, (-1)) ∧ w9 = w) (k2 : ¬ ((w 33 25) < y) → Go mX8_dropBy 23 [(0, eR 33), (1, (0, px)), (2, (0, py)), (3, (0, h)), (4, (0, 3)), (5, (0, (3 + 2) % 4)), (6, (0, y)), (7, (0, (-1)))] [] w r w9) : Go mX8_dropBy 11 [(0, eR 33), (1, (0, px)), (2, (0, py)), (3, (0, h)), (4, (0, 3)), (5, (0, (3 + 2) % 4)), (6, (0, y))] [] w r w9 := by
  obtain ⟨⟨c1, c2, c3, c4, c5, c6, c7, c8, c9, c10⟩, c11, c12, c13⟩ := id hM
  refine go_iload (eD DX8_dropBy 8 rfl) rfl (go_aload_n (eD DX8_dropBy 9 rfl) rfl rfl (go_getI (kz := 25) (eD DX8_dropBy 10 rfl) fX8_219 (by decide) rfl rfl rfl (?_)))
  by_cases h1 : (w 33 25) < y
  · refine go_icmp_gtT (tgt := 130) (eD DX8_dropBy 11 rfl) rfl (by omega) (show eI (w 33 25) from by omega) h1 ?_
    rw [(k1 h1).1, (k1 h1).2]
    exact go_iconst (eD DX8_dropBy 64 rfl) (go_iret (eD DX8_dropBy 65 rfl) rfl)
  · refine go_icmp_gtF (tgt := 130) (eD DX8_dropBy 11 rfl) rfl (by omega) (show eI (w 33 25) from by omega) h1 ?_
    exact go_iconst (eD DX8_dropBy 12 rfl) (go_istore (eD DX8_dropBy 13 rfl) (by decide) (Go.pick [1, 2, 3, 4, 5, 6, 7, 0] rfl (k2 h1)))
set_option maxHeartbeats 4000000 in
set_option maxRecDepth 20000 in
theorem tX8_dropBy3_23 {r : Option eV} {w9 : eW} (w : eW) (px py h y x : Int) {ww : Int} (hM : MB w) (hsp : ∀ k, 140 ≤ k → k < 144 → 1 ≤ w 38 k ∧ w 38 k ≤ 9) (hp : 0 ≤ px ∧ px ≤ 56 ∧ 0 ≤ py ∧ py ≤ 40) (hh : eI h) (hy : -1 ≤ y ∧ y ≤ w 33 25) (hx : -1 ≤ x ∧ x ≤ 15) (hr : x ≤ w 33 24 → 0 ≤ rcQ (qM w) px py x y ∧ rcQ (qM w) px py x y ≤ 200000) (ht : x ≤ w 33 24 → 0 ≤ tmQ (qM w) px py x y 3 ∧ tmQ (qM w) px py x y 3 ≤ 200000) (g1 : ¬ w 33 24 < x → ¬ insM w x y → insM w (x + 1) (y) → Cal mX8_wallWith [eR 33, (0, x + 1), (0, y), (0, 3)] w (some (0, ww)) w) (k1 : (w 33 24) < x → Go mX8_dropBy 11 [(0, eR 33), (1, (0, px)), (2, (0, py)), (3, (0, h)), (4, (0, 3)), (5, (0, (3 + 2) % 4)), (6, (0, y + 1))] [] w r w9) (k2 : ¬ ((w 33 24) < x) → insM w x y → Go mX8_dropBy 23 [(0, eR 33), (1, (0, px)), (2, (0, py)), (3, (0, h)), (4, (0, 3)), (5, (0, (3 + 2) % 4)), (6, (0, y)), (7, (0, x + 1))] [] w r w9) (k3 : ¬ ((w 33 24) < x) → ¬ (insM w x y) → insM w (x + 1) y → (rcQ (qM w) px py x y) = h → (tmQ (qM w) px py x y 3) = h → r = some (0, ww) ∧ w9 = w) (k4 : ¬ ((w 33 24) < x) → ¬ (insM w x y) → insM w (x + 1) y → (rcQ (qM w) px py x y) = h → ¬ ((tmQ (qM w) px py x y 3) = h) → Go mX8_dropBy 23 [(0, eR 33), (1, (0, px)), (2, (0, py)), (3, (0, h)), (4, (0, 3)), (5, (0, (3 + 2) % 4)), (6, (0, y)), (7, (0, x + 1))] [] w r w9) (k5 : ¬ ((w 33 24) < x) → ¬ (insM w x y) → insM w (x + 1) y → ¬ ((rcQ (qM w) px py x y) = h) → Go mX8_dropBy 23 [(0, eR 33), (1, (0, px)), (2, (0, py)), (3, (0, h)), (4, (0, 3)), (5, (0, (3 + 2) % 4)), (6, (0, y)), (7, (0, x + 1))] [] w r w9) (k6 : ¬ ((w 33 24) < x) → ¬ (insM w x y) → ¬ (insM w (x + 1) y) → Go mX8_dropBy 23 [(0, eR 33), (1, (0, px)), (2, (0, py)), (3, (0, h)), (4, (0, 3)), (5, (0, (3 + 2) % 4)), (6, (0, y)), (7, (0, x + 1))] [] w r w9) : Go mX8_dropBy 23 [(0, eR 33), (1, (0, px)), (2, (0, py)), (3, (0, h)), (4, (0, 3)), (5, (0, (3 + 2) % 4)), (6, (0, y)), (7, (0, x))] [] w r w9 := by
  obtain ⟨⟨c1, c2, c3, c4, c5, c6, c7, c8, c9, c10⟩, c11, c12, c13⟩ := id hM
  refine go_iload (eD DX8_dropBy 14 rfl) rfl (go_aload_n (eD DX8_dropBy 15 rfl) rfl rfl (go_getI (kz := 24) (eD DX8_dropBy 16 rfl) fX8_216 (by decide) rfl rfl rfl (?_)))
  by_cases h1 : (w 33 24) < x
  · refine go_icmp_gtT (tgt := 124) (eD DX8_dropBy 17 rfl) rfl (by omega) (show eI (w 33 24) from by omega) h1 ?_
    exact go_iinc (eD DX8_dropBy 62 rfl) rfl (by decide) (go_goto (tgt := 11) (eD DX8_dropBy 63 rfl) rfl (Go.pick [1, 2, 3, 4, 5, 6, 0] rfl (k1 h1)))
  · refine go_icmp_gtF (tgt := 124) (eD DX8_dropBy 17 rfl) rfl (by omega) (show eI (w 33 24) from by omega) h1 ?_
    refine go_aload_n (eD DX8_dropBy 18 rfl) rfl rfl (go_iload (eD DX8_dropBy 19 rfl) rfl (go_iload (eD DX8_dropBy 20 rfl) rfl (go_callV (ci := 8) [(0, x), (0, y)] (eD DX8_dropBy 21 rfl) ⟨eMem 6 75 rfl rfl, sX8_isInside⟩ ⟨Nat.le_of_ble_eq_true rfl, Nat.le_of_ble_eq_true rfl⟩ (by decide) ⟨rfl, by decide, _, rfl, rfl⟩ rfl rfl (Nat.le_of_ble_eq_true rfl) (y_b_X8_isInside w x y (by omega) (by omega) (by assumption)) (?_))))
    by_cases h2 : insM w x y
    · refine go_if_neT (tgt := 118) (eD DX8_dropBy 22 rfl) rfl (eI_pI _) (pI1 h2) ?_
      exact go_iinc (eD DX8_dropBy 60 rfl) rfl (by decide) (go_goto (tgt := 23) (eD DX8_dropBy 61 rfl) rfl (Go.pick [1, 2, 3, 4, 5, 6, 7, 0] rfl (k2 h1 h2)))
    · refine go_if_neF (tgt := 118) (eD DX8_dropBy 22 rfl) rfl (eI_pI _) (not_not_intro (pI0 h2)) ?_
      refine go_aload_n (eD DX8_dropBy 23 rfl) rfl rfl (go_iload (eD DX8_dropBy 24 rfl) rfl (go_iload (eD DX8_dropBy 25 rfl) rfl (?_)))
      refine go_callS [(0, x), (0, (3 + 2) % 4)] (eD DX8_dropBy 26 rfl) ⟨eMem 6 79 rfl rfl, sX8_besideX⟩ ⟨Nat.le_of_ble_eq_true rfl, Nat.le_of_ble_eq_true rfl⟩ rfl rfl (Nat.le_of_ble_eq_true rfl) (Cal.as (zX8_besideX w x ((3 + 2) % 4) (show eI ((3 + 2) % 4) from by decide) ) (r2 := some (0, x + 1)) (w2 := w) (by (try simp only [rX8_besideX, if_neg h1, if_neg h2]) <;> (try rfl)) rfl) (?_)
      refine go_iload (eD DX8_dropBy 27 rfl) rfl (go_iload (eD DX8_dropBy 28 rfl) rfl (?_))
      refine go_callS [(0, y), (0, (3 + 2) % 4)] (eD DX8_dropBy 29 rfl) ⟨eMem 6 82 rfl rfl, sX8_besideY⟩ ⟨Nat.le_of_ble_eq_true rfl, Nat.le_of_ble_eq_true rfl⟩ rfl rfl (Nat.le_of_ble_eq_true rfl) (Cal.as (zX8_besideY w y ((3 + 2) % 4) (show eI ((3 + 2) % 4) from by decide) ) (r2 := some (0, y)) (w2 := w) (by (try simp only [rX8_besideY, if_neg h1, if_neg h2]) <;> (try rfl)) rfl) (?_)
      refine go_callV (ci := 8) [(0, x + 1), (0, y)] (eD DX8_dropBy 30 rfl) ⟨eMem 6 75 rfl rfl, sX8_isInside⟩ ⟨Nat.le_of_ble_eq_true rfl, Nat.le_of_ble_eq_true rfl⟩ (by decide) ⟨rfl, by decide, _, rfl, rfl⟩ rfl rfl (Nat.le_of_ble_eq_true rfl) (y_b_X8_isInside w (x + 1) y (by omega) (by omega) (by assumption)) (?_)
      by_cases h3 : insM w (x + 1) y
      · refine go_if_neT (tgt := 67) (eD DX8_dropBy 31 rfl) rfl (eI_pI _) (pI1 h3) ?_
        refine go_aload_n (eD DX8_dropBy 33 rfl) rfl rfl (go_iload_n (eD DX8_dropBy 34 rfl) rfl rfl (go_iload_n (eD DX8_dropBy 35 rfl) rfl rfl (go_iload (eD DX8_dropBy 36 rfl) rfl (go_iload (eD DX8_dropBy 37 rfl) rfl (go_callV (ci := 8) [(0, px), (0, py), (0, x), (0, y)] (eD DX8_dropBy 38 rfl) ⟨eMem 6 177 rfl rfl, sX8_reachOf⟩ ⟨Nat.le_of_ble_eq_true rfl, Nat.le_of_ble_eq_true rfl⟩ (by decide) ⟨rfl, by decide, _, rfl, rfl⟩ rfl rfl (Nat.le_of_ble_eq_true rfl) (y_X8_reachOf w px py x y hsp (by omega) (by omega)) (go_iload_n (eD DX8_dropBy 39 rfl) rfl rfl (?_)))))))
        by_cases h4 : (rcQ (qM w) px py x y) = h
        · refine go_icmp_neF (tgt := 118) (eD DX8_dropBy 40 rfl) rfl (show eI (rcQ (qM w) px py x y) from by omega) (by omega) (not_not_intro h4) ?_
          refine go_aload_n (eD DX8_dropBy 41 rfl) rfl rfl (go_iload_n (eD DX8_dropBy 42 rfl) rfl rfl (go_iload_n (eD DX8_dropBy 43 rfl) rfl rfl (go_iload (eD DX8_dropBy 44 rfl) rfl (go_iload (eD DX8_dropBy 45 rfl) rfl (go_iload (eD DX8_dropBy 46 rfl) rfl (go_callV (ci := 8) [(0, px), (0, py), (0, x), (0, y), (0, 3)] (eD DX8_dropBy 47 rfl) ⟨eMem 6 181 rfl rfl, sX8_timeOf⟩ ⟨Nat.le_of_ble_eq_true rfl, Nat.le_of_ble_eq_true rfl⟩ (by decide) ⟨rfl, by decide, _, rfl, rfl⟩ rfl rfl (Nat.le_of_ble_eq_true rfl) (y_X8_timeOf w px py x y 3 hsp (by omega) (by omega) (by decide)) (go_iload_n (eD DX8_dropBy 48 rfl) rfl rfl (?_))))))))
          by_cases h5 : (tmQ (qM w) px py x y 3) = h
          · refine go_icmp_neF (tgt := 118) (eD DX8_dropBy 49 rfl) rfl (show eI (tmQ (qM w) px py x y 3) from by omega) (by omega) (not_not_intro h5) ?_
            refine go_aload_n (eD DX8_dropBy 50 rfl) rfl rfl (go_iload (eD DX8_dropBy 51 rfl) rfl (go_iload (eD DX8_dropBy 52 rfl) rfl (?_)))
            refine go_callS [(0, x), (0, (3 + 2) % 4)] (eD DX8_dropBy 53 rfl) ⟨eMem 6 79 rfl rfl, sX8_besideX⟩ ⟨Nat.le_of_ble_eq_true rfl, Nat.le_of_ble_eq_true rfl⟩ rfl rfl (Nat.le_of_ble_eq_true rfl) (Cal.as (zX8_besideX w x ((3 + 2) % 4) (show eI ((3 + 2) % 4) from by decide) ) (r2 := some (0, x + 1)) (w2 := w) (by (try simp only [rX8_besideX, if_neg h1, if_neg h2, if_pos h3, if_pos h4, if_pos h5]) <;> (try rfl)) rfl) (?_)
            refine go_iload (eD DX8_dropBy 54 rfl) rfl (go_iload (eD DX8_dropBy 55 rfl) rfl (?_))
            refine go_callS [(0, y), (0, (3 + 2) % 4)] (eD DX8_dropBy 56 rfl) ⟨eMem 6 82 rfl rfl, sX8_besideY⟩ ⟨Nat.le_of_ble_eq_true rfl, Nat.le_of_ble_eq_true rfl⟩ rfl rfl (Nat.le_of_ble_eq_true rfl) (Cal.as (zX8_besideY w y ((3 + 2) % 4) (show eI ((3 + 2) % 4) from by decide) ) (r2 := some (0, y)) (w2 := w) (by (try simp only [rX8_besideY, if_neg h1, if_neg h2, if_pos h3, if_pos h4, if_pos h5]) <;> (try rfl)) rfl) (?_)
            rw [(k3 h1 h2 h3 h4 h5).1, (k3 h1 h2 h3 h4 h5).2]
            exact go_iload (eD DX8_dropBy 57 rfl) rfl (go_callV (ci := 8) [(0, x + 1), (0, y), (0, 3)] (eD DX8_dropBy 58 rfl) ⟨eMem 6 157 rfl rfl, sX8_wallWith⟩ ⟨Nat.le_of_ble_eq_true rfl, Nat.le_of_ble_eq_true rfl⟩ (by decide) ⟨rfl, by decide, _, rfl, rfl⟩ rfl rfl (Nat.le_of_ble_eq_true rfl) (g1 (by assumption) (by assumption) (by assumption)) (go_iret (eD DX8_dropBy 59 rfl) rfl))
          · refine go_icmp_neT (tgt := 118) (eD DX8_dropBy 49 rfl) rfl (show eI (tmQ (qM w) px py x y 3) from by omega) (by omega) h5 ?_
            exact go_iinc (eD DX8_dropBy 60 rfl) rfl (by decide) (go_goto (tgt := 23) (eD DX8_dropBy 61 rfl) rfl (Go.pick [1, 2, 3, 4, 5, 6, 7, 0] rfl (k4 h1 h2 h3 h4 h5)))
        · refine go_icmp_neT (tgt := 118) (eD DX8_dropBy 40 rfl) rfl (show eI (rcQ (qM w) px py x y) from by omega) (by omega) h4 ?_
          exact go_iinc (eD DX8_dropBy 60 rfl) rfl (by decide) (go_goto (tgt := 23) (eD DX8_dropBy 61 rfl) rfl (Go.pick [1, 2, 3, 4, 5, 6, 7, 0] rfl (k5 h1 h2 h3 h4)))
      · refine go_if_neF (tgt := 67) (eD DX8_dropBy 31 rfl) rfl (eI_pI _) (not_not_intro (pI0 h3)) ?_
        exact go_goto (tgt := 118) (eD DX8_dropBy 32 rfl) rfl (go_iinc (eD DX8_dropBy 60 rfl) rfl (by decide) (go_goto (tgt := 23) (eD DX8_dropBy 61 rfl) rfl (Go.pick [1, 2, 3, 4, 5, 6, 7, 0] rfl (k6 h1 h2 h3))))
set_option maxHeartbeats 4000000 in
set_option maxRecDepth 20000 in
theorem tX8_dropOf_0 {r : Option eV} {w9 : eW} (w : eW) (px py : Int) {hh : Int} (g1 : Cal mX8_heightOf [eR 33, (0, px), (0, py)] w (some (0, hh)) w) (k1 : Go mX8_dropOf 10 [(0, eR 33), (1, (0, px)), (2, (0, py)), (3, (0, hh)), (4, (0, 0))] [] w r w9) : Go mX8_dropOf 0 [(0, eR 33), (1, (0, px)), (2, (0, py))] [] w r w9 := by
  exact go_aload_n (eD DX8_dropOf 0 rfl) rfl rfl (go_iload_n (eD DX8_dropOf 1 rfl) rfl rfl (go_iload_n (eD DX8_dropOf 2 rfl) rfl rfl (go_callV (ci := 8) [(0, px), (0, py)] (eD DX8_dropOf 3 rfl) ⟨eMem 6 173 rfl rfl, sX8_heightOf⟩ ⟨Nat.le_of_ble_eq_true rfl, Nat.le_of_ble_eq_true rfl⟩ (by decide) ⟨rfl, by decide, _, rfl, rfl⟩ rfl rfl (Nat.le_of_ble_eq_true rfl) g1 (go_istore_n (eD DX8_dropOf 4 rfl) rfl (by decide) (go_iconst (eD DX8_dropOf 5 rfl) (go_istore (eD DX8_dropOf 6 rfl) (by decide) (Go.pick [2, 3, 4, 1, 0] rfl (k1))))))))
set_option maxHeartbeats 4000000 in
set_option maxRecDepth 20000 in
theorem tX8_dropOf0_10 {r : Option eV} {w9 : eW} (w : eW) (px py h : Int) {dd : Int} (hh : eI h) (hd : eI dd) (g1 : 0 < h → Cal mX8_dropBy [eR 33, (0, px), (0, py), (0, h), (0, 0)] w (some (0, dd)) w) (k1 : 0 < h → dd = (-1) → Go mX8_dropOf 10 [(0, eR 33), (1, (0, px)), (2, (0, py)), (3, (0, h)), (4, (0, 0 + 1))] [] w r w9) (k2 : 0 < h → ¬ (dd = (-1)) → r = some (0, dd) ∧ w9 = w) (k3 : ¬ (0 < h) → r = some (0, (-2)) ∧ w9 = w) : Go mX8_dropOf 10 [(0, eR 33), (1, (0, px)), (2, (0, py)), (3, (0, h)), (4, (0, 0))] [] w r w9 := by
  refine go_iload (eD DX8_dropOf 7 rfl) rfl (go_iconst (eD DX8_dropOf 8 rfl) (go_icmp_geF (tgt := 46) (eD DX8_dropOf 9 rfl) rfl (by decide) (by decide) (Int.not_le.mpr (show (0 : Int) < 4 from by decide)) (?_)))
  refine go_iload_n (eD DX8_dropOf 10 rfl) rfl rfl (?_)
  by_cases h1 : 0 < h
  · refine go_if_leF (tgt := 46) (eD DX8_dropOf 11 rfl) rfl (by omega) (Int.not_le.mpr h1) ?_
    refine go_aload_n (eD DX8_dropOf 12 rfl) rfl rfl (go_iload_n (eD DX8_dropOf 13 rfl) rfl rfl (go_iload_n (eD DX8_dropOf 14 rfl) rfl rfl (go_iload_n (eD DX8_dropOf 15 rfl) rfl rfl (go_iload (eD DX8_dropOf 16 rfl) rfl (go_callV (ci := 8) [(0, px), (0, py), (0, h), (0, 0)] (eD DX8_dropOf 17 rfl) ⟨eMem 6 205 rfl rfl, sX8_dropBy⟩ ⟨Nat.le_of_ble_eq_true rfl, Nat.le_of_ble_eq_true rfl⟩ (by decide) ⟨rfl, by decide, _, rfl, rfl⟩ rfl rfl (Nat.le_of_ble_eq_true rfl) (g1 (by assumption)) (go_istore (eD DX8_dropOf 18 rfl) (by decide) (go_iload (eD DX8_dropOf 19 rfl) rfl (go_iconst (eD DX8_dropOf 20 rfl) (?_)))))))))
    by_cases h2 : dd = (-1)
    · refine go_icmp_eqT (tgt := 40) (eD DX8_dropOf 21 rfl) rfl (by omega) (by decide) h2 ?_
      exact go_iinc (eD DX8_dropOf 24 rfl) rfl (by decide) (go_goto (tgt := 10) (eD DX8_dropOf 25 rfl) rfl (Go.pick [2, 3, 4, 5, 0] rfl (k1 h1 h2)))
    · refine go_icmp_eqF (tgt := 40) (eD DX8_dropOf 21 rfl) rfl (by omega) (by decide) h2 ?_
      rw [(k2 h1 h2).1, (k2 h1 h2).2]
      exact go_iload (eD DX8_dropOf 22 rfl) rfl (go_iret (eD DX8_dropOf 23 rfl) rfl)
  · refine go_if_leT (tgt := 46) (eD DX8_dropOf 11 rfl) rfl (by omega) (Int.not_lt.mp h1) ?_
    rw [(k3 h1).1, (k3 h1).2]
    exact go_bipush (eD DX8_dropOf 26 rfl) (by decide) (go_iret (eD DX8_dropOf 27 rfl) rfl)
set_option maxHeartbeats 4000000 in
set_option maxRecDepth 20000 in
theorem tX8_dropOf1_10 {r : Option eV} {w9 : eW} (w : eW) (px py h : Int) {dd : Int} (hh : eI h) (hd : eI dd) (g1 : 0 < h → Cal mX8_dropBy [eR 33, (0, px), (0, py), (0, h), (0, 1)] w (some (0, dd)) w) (k1 : 0 < h → dd = (-1) → Go mX8_dropOf 10 [(0, eR 33), (1, (0, px)), (2, (0, py)), (3, (0, h)), (4, (0, 1 + 1))] [] w r w9) (k2 : 0 < h → ¬ (dd = (-1)) → r = some (0, dd) ∧ w9 = w) (k3 : ¬ (0 < h) → r = some (0, (-2)) ∧ w9 = w) : Go mX8_dropOf 10 [(0, eR 33), (1, (0, px)), (2, (0, py)), (3, (0, h)), (4, (0, 1))] [] w r w9 := by
  refine go_iload (eD DX8_dropOf 7 rfl) rfl (go_iconst (eD DX8_dropOf 8 rfl) (go_icmp_geF (tgt := 46) (eD DX8_dropOf 9 rfl) rfl (by decide) (by decide) (Int.not_le.mpr (show (1 : Int) < 4 from by decide)) (?_)))
  refine go_iload_n (eD DX8_dropOf 10 rfl) rfl rfl (?_)
  by_cases h1 : 0 < h
  · refine go_if_leF (tgt := 46) (eD DX8_dropOf 11 rfl) rfl (by omega) (Int.not_le.mpr h1) ?_
    refine go_aload_n (eD DX8_dropOf 12 rfl) rfl rfl (go_iload_n (eD DX8_dropOf 13 rfl) rfl rfl (go_iload_n (eD DX8_dropOf 14 rfl) rfl rfl (go_iload_n (eD DX8_dropOf 15 rfl) rfl rfl (go_iload (eD DX8_dropOf 16 rfl) rfl (go_callV (ci := 8) [(0, px), (0, py), (0, h), (0, 1)] (eD DX8_dropOf 17 rfl) ⟨eMem 6 205 rfl rfl, sX8_dropBy⟩ ⟨Nat.le_of_ble_eq_true rfl, Nat.le_of_ble_eq_true rfl⟩ (by decide) ⟨rfl, by decide, _, rfl, rfl⟩ rfl rfl (Nat.le_of_ble_eq_true rfl) (g1 (by assumption)) (go_istore (eD DX8_dropOf 18 rfl) (by decide) (go_iload (eD DX8_dropOf 19 rfl) rfl (go_iconst (eD DX8_dropOf 20 rfl) (?_)))))))))
    by_cases h2 : dd = (-1)
    · refine go_icmp_eqT (tgt := 40) (eD DX8_dropOf 21 rfl) rfl (by omega) (by decide) h2 ?_
      exact go_iinc (eD DX8_dropOf 24 rfl) rfl (by decide) (go_goto (tgt := 10) (eD DX8_dropOf 25 rfl) rfl (Go.pick [2, 3, 4, 5, 0] rfl (k1 h1 h2)))
    · refine go_icmp_eqF (tgt := 40) (eD DX8_dropOf 21 rfl) rfl (by omega) (by decide) h2 ?_
      rw [(k2 h1 h2).1, (k2 h1 h2).2]
      exact go_iload (eD DX8_dropOf 22 rfl) rfl (go_iret (eD DX8_dropOf 23 rfl) rfl)
  · refine go_if_leT (tgt := 46) (eD DX8_dropOf 11 rfl) rfl (by omega) (Int.not_lt.mp h1) ?_
    rw [(k3 h1).1, (k3 h1).2]
    exact go_bipush (eD DX8_dropOf 26 rfl) (by decide) (go_iret (eD DX8_dropOf 27 rfl) rfl)
set_option maxHeartbeats 4000000 in
set_option maxRecDepth 20000 in
theorem tX8_dropOf2_10 {r : Option eV} {w9 : eW} (w : eW) (px py h : Int) {dd : Int} (hh : eI h) (hd : eI dd) (g1 : 0 < h → Cal mX8_dropBy [eR 33, (0, px), (0, py), (0, h), (0, 2)] w (some (0, dd)) w) (k1 : 0 < h → dd = (-1) → Go mX8_dropOf 10 [(0, eR 33), (1, (0, px)), (2, (0, py)), (3, (0, h)), (4, (0, 2 + 1))] [] w r w9) (k2 : 0 < h → ¬ (dd = (-1)) → r = some (0, dd) ∧ w9 = w) (k3 : ¬ (0 < h) → r = some (0, (-2)) ∧ w9 = w) : Go mX8_dropOf 10 [(0, eR 33), (1, (0, px)), (2, (0, py)), (3, (0, h)), (4, (0, 2))] [] w r w9 := by
  refine go_iload (eD DX8_dropOf 7 rfl) rfl (go_iconst (eD DX8_dropOf 8 rfl) (go_icmp_geF (tgt := 46) (eD DX8_dropOf 9 rfl) rfl (by decide) (by decide) (Int.not_le.mpr (show (2 : Int) < 4 from by decide)) (?_)))
  refine go_iload_n (eD DX8_dropOf 10 rfl) rfl rfl (?_)
  by_cases h1 : 0 < h
  · refine go_if_leF (tgt := 46) (eD DX8_dropOf 11 rfl) rfl (by omega) (Int.not_le.mpr h1) ?_
    refine go_aload_n (eD DX8_dropOf 12 rfl) rfl rfl (go_iload_n (eD DX8_dropOf 13 rfl) rfl rfl (go_iload_n (eD DX8_dropOf 14 rfl) rfl rfl (go_iload_n (eD DX8_dropOf 15 rfl) rfl rfl (go_iload (eD DX8_dropOf 16 rfl) rfl (go_callV (ci := 8) [(0, px), (0, py), (0, h), (0, 2)] (eD DX8_dropOf 17 rfl) ⟨eMem 6 205 rfl rfl, sX8_dropBy⟩ ⟨Nat.le_of_ble_eq_true rfl, Nat.le_of_ble_eq_true rfl⟩ (by decide) ⟨rfl, by decide, _, rfl, rfl⟩ rfl rfl (Nat.le_of_ble_eq_true rfl) (g1 (by assumption)) (go_istore (eD DX8_dropOf 18 rfl) (by decide) (go_iload (eD DX8_dropOf 19 rfl) rfl (go_iconst (eD DX8_dropOf 20 rfl) (?_)))))))))
    by_cases h2 : dd = (-1)
    · refine go_icmp_eqT (tgt := 40) (eD DX8_dropOf 21 rfl) rfl (by omega) (by decide) h2 ?_
      exact go_iinc (eD DX8_dropOf 24 rfl) rfl (by decide) (go_goto (tgt := 10) (eD DX8_dropOf 25 rfl) rfl (Go.pick [2, 3, 4, 5, 0] rfl (k1 h1 h2)))
    · refine go_icmp_eqF (tgt := 40) (eD DX8_dropOf 21 rfl) rfl (by omega) (by decide) h2 ?_
      rw [(k2 h1 h2).1, (k2 h1 h2).2]
      exact go_iload (eD DX8_dropOf 22 rfl) rfl (go_iret (eD DX8_dropOf 23 rfl) rfl)
  · refine go_if_leT (tgt := 46) (eD DX8_dropOf 11 rfl) rfl (by omega) (Int.not_lt.mp h1) ?_
    rw [(k3 h1).1, (k3 h1).2]
    exact go_bipush (eD DX8_dropOf 26 rfl) (by decide) (go_iret (eD DX8_dropOf 27 rfl) rfl)
set_option maxHeartbeats 4000000 in
set_option maxRecDepth 20000 in
theorem tX8_dropOf3_10 {r : Option eV} {w9 : eW} (w : eW) (px py h : Int) {dd : Int} (hh : eI h) (hd : eI dd) (g1 : 0 < h → Cal mX8_dropBy [eR 33, (0, px), (0, py), (0, h), (0, 3)] w (some (0, dd)) w) (k1 : 0 < h → dd = (-1) → Go mX8_dropOf 10 [(0, eR 33), (1, (0, px)), (2, (0, py)), (3, (0, h)), (4, (0, 3 + 1))] [] w r w9) (k2 : 0 < h → ¬ (dd = (-1)) → r = some (0, dd) ∧ w9 = w) (k3 : ¬ (0 < h) → r = some (0, (-2)) ∧ w9 = w) : Go mX8_dropOf 10 [(0, eR 33), (1, (0, px)), (2, (0, py)), (3, (0, h)), (4, (0, 3))] [] w r w9 := by
  refine go_iload (eD DX8_dropOf 7 rfl) rfl (go_iconst (eD DX8_dropOf 8 rfl) (go_icmp_geF (tgt := 46) (eD DX8_dropOf 9 rfl) rfl (by decide) (by decide) (Int.not_le.mpr (show (3 : Int) < 4 from by decide)) (?_)))
  refine go_iload_n (eD DX8_dropOf 10 rfl) rfl rfl (?_)
  by_cases h1 : 0 < h
  · refine go_if_leF (tgt := 46) (eD DX8_dropOf 11 rfl) rfl (by omega) (Int.not_le.mpr h1) ?_
    refine go_aload_n (eD DX8_dropOf 12 rfl) rfl rfl (go_iload_n (eD DX8_dropOf 13 rfl) rfl rfl (go_iload_n (eD DX8_dropOf 14 rfl) rfl rfl (go_iload_n (eD DX8_dropOf 15 rfl) rfl rfl (go_iload (eD DX8_dropOf 16 rfl) rfl (go_callV (ci := 8) [(0, px), (0, py), (0, h), (0, 3)] (eD DX8_dropOf 17 rfl) ⟨eMem 6 205 rfl rfl, sX8_dropBy⟩ ⟨Nat.le_of_ble_eq_true rfl, Nat.le_of_ble_eq_true rfl⟩ (by decide) ⟨rfl, by decide, _, rfl, rfl⟩ rfl rfl (Nat.le_of_ble_eq_true rfl) (g1 (by assumption)) (go_istore (eD DX8_dropOf 18 rfl) (by decide) (go_iload (eD DX8_dropOf 19 rfl) rfl (go_iconst (eD DX8_dropOf 20 rfl) (?_)))))))))
    by_cases h2 : dd = (-1)
    · refine go_icmp_eqT (tgt := 40) (eD DX8_dropOf 21 rfl) rfl (by omega) (by decide) h2 ?_
      exact go_iinc (eD DX8_dropOf 24 rfl) rfl (by decide) (go_goto (tgt := 10) (eD DX8_dropOf 25 rfl) rfl (Go.pick [2, 3, 4, 5, 0] rfl (k1 h1 h2)))
    · refine go_icmp_eqF (tgt := 40) (eD DX8_dropOf 21 rfl) rfl (by omega) (by decide) h2 ?_
      rw [(k2 h1 h2).1, (k2 h1 h2).2]
      exact go_iload (eD DX8_dropOf 22 rfl) rfl (go_iret (eD DX8_dropOf 23 rfl) rfl)
  · refine go_if_leT (tgt := 46) (eD DX8_dropOf 11 rfl) rfl (by omega) (Int.not_lt.mp h1) ?_
    rw [(k3 h1).1, (k3 h1).2]
    exact go_bipush (eD DX8_dropOf 26 rfl) (by decide) (go_iret (eD DX8_dropOf 27 rfl) rfl)
set_option maxHeartbeats 4000000 in
set_option maxRecDepth 20000 in
theorem tX8_dropOf4_10 {r : Option eV} {w9 : eW} (w : eW) (px py h : Int) (hh : eI h) (k1 : r = some (0, (-2)) ∧ w9 = w) : Go mX8_dropOf 10 [(0, eR 33), (1, (0, px)), (2, (0, py)), (3, (0, h)), (4, (0, 4))] [] w r w9 := by
  refine go_iload (eD DX8_dropOf 7 rfl) rfl (go_iconst (eD DX8_dropOf 8 rfl) (go_icmp_geT (tgt := 46) (eD DX8_dropOf 9 rfl) rfl (by decide) (by decide) (Int.not_lt.mp (show ¬ ((4 : Int) < 4) from by decide)) (?_)))
  rw [(k1).1, (k1).2]
  exact go_bipush (eD DX8_dropOf 26 rfl) (by decide) (go_iret (eD DX8_dropOf 27 rfl) rfl)
set_option maxHeartbeats 4000000 in
set_option maxRecDepth 20000 in
theorem tX8_faces_0 {r : Option eV} {w9 : eW} (w : eW) (set : Int) (hM : MB w) (hset : eI set) (k1 : (w 33 28) = 0 → r = some (0, (-1)) ∧ w9 = (eU (eU (eU w 33 0 0) 33 1 1) 33 2 (-1))) (k2 : ¬ ((w 33 28) = 0) → 0 ≤ set ∧ set ≤ 15 → Go mX8_faces 38 [(0, eR 33), (1, (0, set)), (2, (0, 0)), (3, (0, 0))] [] (eU w 33 0 0) r w9) (k3 : ¬ ((w 33 28) = 0) → ¬ (0 ≤ set ∧ set ≤ 15) → r = some (0, (-1)) ∧ w9 = (eU (eU (eU w 33 0 0) 33 1 2) 33 2 (-1))) : Go mX8_faces 0 [(0, eR 33), (1, (0, set))] [] w r w9 := by
  obtain ⟨⟨c1, c2, c3, c4, c5, c6, c7, c8, c9, c10⟩, c11, c12, c13⟩ := id hM
  refine go_aload_n (eD DX8_faces 0 rfl) rfl rfl (go_iconst (eD DX8_faces 1 rfl) (go_putI (kz := 0) (eD DX8_faces 2 rfl) fX8_95 (by decide) rfl rfl (fun q h => by cases h; exact ⟨rfl, rfl⟩) rfl (go_aload_n (eD DX8_faces 3 rfl) rfl rfl (go_getI (kz := 28) (eD DX8_faces 4 rfl) fX8_228 (by decide) rfl rfl rfl (?_)))))
  by_cases h1 : (w 33 28) = 0
  · refine go_if_neF (tgt := 18) (eD DX8_faces 5 rfl) rfl (show eI (w 33 28) from by omega) (not_not_intro h1) ?_
    refine go_aload_n (eD DX8_faces 6 rfl) rfl rfl (go_iconst (eD DX8_faces 7 rfl) (?_))
    refine go_callV (ci := 8) [(0, 1)] (eD DX8_faces 8 rfl) ⟨eMem 5 233 rfl rfl, sX8_refused⟩ ⟨Nat.le_of_ble_eq_true rfl, Nat.le_of_ble_eq_true rfl⟩ (by decide) ⟨rfl, by decide, _, rfl, rfl⟩ rfl rfl (Nat.le_of_ble_eq_true rfl) (Cal.as (zX8_refused (eU w 33 0 0) 1  ) (r2 := some (0, (-1))) (w2 := (eU (eU (eU w 33 0 0) 33 1 1) 33 2 (-1))) (by (try simp only [rX8_refused, if_pos h1]) <;> (try rfl)) (by (try simp only [wX8_refused, if_pos h1]) <;> (try rfl))) (?_)
    rw [(k1 h1).1, (k1 h1).2]
    exact go_iret (eD DX8_faces 9 rfl) rfl
  · refine go_if_neT (tgt := 18) (eD DX8_faces 5 rfl) rfl (show eI (w 33 28) from by omega) h1 ?_
    refine go_iload_n (eD DX8_faces 10 rfl) rfl rfl (go_iconst (eD DX8_faces 11 rfl) (go_bipush (eD DX8_faces 12 rfl) (by decide) (go_callS [(0, set), (0, 0), (0, 15)] (eD DX8_faces 13 rfl) ⟨eMem 5 230 rfl rfl, sX8_in⟩ ⟨Nat.le_of_ble_eq_true rfl, Nat.le_of_ble_eq_true rfl⟩ rfl rfl (Nat.le_of_ble_eq_true rfl) (y_b_X8_in (eU w 33 0 0) set 0 15 (by omega) (by decide) (by decide) ) (?_))))
    by_cases h2 : 0 ≤ set ∧ set ≤ 15
    · refine go_if_neT (tgt := 34) (eD DX8_faces 14 rfl) rfl (eI_pI _) (pI1 h2) ?_
      exact go_iconst (eD DX8_faces 19 rfl) (go_istore_n (eD DX8_faces 20 rfl) rfl (by decide) (go_iconst (eD DX8_faces 21 rfl) (go_istore_n (eD DX8_faces 22 rfl) rfl (by decide) (Go.pick [2, 3, 1, 0] rfl (k2 h1 h2)))))
    · refine go_if_neF (tgt := 34) (eD DX8_faces 14 rfl) rfl (eI_pI _) (not_not_intro (pI0 h2)) ?_
      refine go_aload_n (eD DX8_faces 15 rfl) rfl rfl (go_iconst (eD DX8_faces 16 rfl) (?_))
      refine go_callV (ci := 8) [(0, 2)] (eD DX8_faces 17 rfl) ⟨eMem 5 233 rfl rfl, sX8_refused⟩ ⟨Nat.le_of_ble_eq_true rfl, Nat.le_of_ble_eq_true rfl⟩ (by decide) ⟨rfl, by decide, _, rfl, rfl⟩ rfl rfl (Nat.le_of_ble_eq_true rfl) (Cal.as (zX8_refused (eU w 33 0 0) 2  ) (r2 := some (0, (-1))) (w2 := (eU (eU (eU w 33 0 0) 33 1 2) 33 2 (-1))) (by (try simp only [rX8_refused, if_neg h1, if_neg h2]) <;> (try rfl)) (by (try simp only [wX8_refused, if_neg h1, if_neg h2]) <;> (try rfl))) (?_)
      rw [(k3 h1 h2).1, (k3 h1 h2).2]
      exact go_iret (eD DX8_faces 18 rfl) rfl
set_option maxHeartbeats 4000000 in
set_option maxRecDepth 20000 in
theorem tX8_faces_38 {r : Option eV} {w9 : eW} (w : eW) (set n py : Int) (hM : MB w) (hp : 0 ≤ py ∧ py ≤ 60) (k1 : (4 * (w 33 25)) < py → r = some (0, n) ∧ w9 = (eU (eU w 33 1 0) 33 2 (-1))) (k2 : ¬ ((4 * (w 33 25)) < py) → Go mX8_faces 51 [(0, eR 33), (1, (0, set)), (2, (0, n)), (3, (0, py)), (4, (0, 0))] [] w r w9) : Go mX8_faces 38 [(0, eR 33), (1, (0, set)), (2, (0, n)), (3, (0, py))] [] w r w9 := by
  obtain ⟨⟨c1, c2, c3, c4, c5, c6, c7, c8, c9, c10⟩, c11, c12, c13⟩ := id hM
  refine go_iload_n (eD DX8_faces 23 rfl) rfl rfl (go_iconst (eD DX8_faces 24 rfl) (go_aload_n (eD DX8_faces 25 rfl) rfl rfl (go_getI (kz := 25) (eD DX8_faces 26 rfl) fX8_219 (by decide) rfl rfl rfl (go_imul (eD DX8_faces 27 rfl) (?_)))))
  by_cases h1 : (4 * (w 33 25)) < py
  · refine go_icmp_gtT (tgt := 93) (eD DX8_faces 28 rfl) rfl (by omega) (show eI (4 * (w 33 25)) from by omega) h1 ?_
    refine go_aload_n (eD DX8_faces 53 rfl) rfl rfl (go_iload_n (eD DX8_faces 54 rfl) rfl rfl (?_))
    refine go_callV (ci := 8) [(0, n)] (eD DX8_faces 55 rfl) ⟨eMem 6 59 rfl rfl, sX8_good⟩ ⟨Nat.le_of_ble_eq_true rfl, Nat.le_of_ble_eq_true rfl⟩ (by decide) ⟨rfl, by decide, _, rfl, rfl⟩ rfl rfl (Nat.le_of_ble_eq_true rfl) (Cal.as (zX8_good w n  ) (r2 := some (0, n)) (w2 := (eU (eU w 33 1 0) 33 2 (-1))) (by (try simp only [rX8_good, if_pos h1]) <;> (try rfl)) (by (try simp only [wX8_good, if_pos h1]) <;> (try rfl))) (?_)
    rw [(k1 h1).1, (k1 h1).2]
    exact go_iret (eD DX8_faces 56 rfl) rfl
  · refine go_icmp_gtF (tgt := 93) (eD DX8_faces 28 rfl) rfl (by omega) (show eI (4 * (w 33 25)) from by omega) h1 ?_
    exact go_iconst (eD DX8_faces 29 rfl) (go_istore (eD DX8_faces 30 rfl) (by decide) (Go.pick [1, 2, 3, 4, 0] rfl (k2 h1)))
set_option maxHeartbeats 4000000 in
set_option maxRecDepth 20000 in
theorem tX8_faces_51 {r : Option eV} {w9 : eW} (w : eW) (set n py px : Int) {sl : Int} (hM : MB w) (hset : eI set) (hp : 0 ≤ px ∧ px ≤ 60) (g1 : ¬ 4 * w 33 24 < px → Cal mX8_slopesOf [eR 33, (0, px), (0, py)] w (some (0, sl)) w) (hs : eI sl) (k1 : (4 * (w 33 24)) < px → Go mX8_faces 38 [(0, eR 33), (1, (0, set)), (2, (0, n)), (3, (0, py + 1))] [] w r w9) (k2 : ¬ ((4 * (w 33 24)) < px) → sl = set → Go mX8_faces 51 [(0, eR 33), (1, (0, set)), (2, (0, n + 1)), (3, (0, py)), (4, (0, px + 1))] [] w r w9) (k3 : ¬ ((4 * (w 33 24)) < px) → ¬ (sl = set) → Go mX8_faces 51 [(0, eR 33), (1, (0, set)), (2, (0, n + 0)), (3, (0, py)), (4, (0, px + 1))] [] w r w9) : Go mX8_faces 51 [(0, eR 33), (1, (0, set)), (2, (0, n)), (3, (0, py)), (4, (0, px))] [] w r w9 := by
  obtain ⟨⟨c1, c2, c3, c4, c5, c6, c7, c8, c9, c10⟩, c11, c12, c13⟩ := id hM
  refine go_iload (eD DX8_faces 31 rfl) rfl (go_iconst (eD DX8_faces 32 rfl) (go_aload_n (eD DX8_faces 33 rfl) rfl rfl (go_getI (kz := 24) (eD DX8_faces 34 rfl) fX8_216 (by decide) rfl rfl rfl (go_imul (eD DX8_faces 35 rfl) (?_)))))
  by_cases h1 : (4 * (w 33 24)) < px
  · refine go_icmp_gtT (tgt := 87) (eD DX8_faces 36 rfl) rfl (by omega) (show eI (4 * (w 33 24)) from by omega) h1 ?_
    exact go_iinc (eD DX8_faces 51 rfl) rfl (by decide) (go_goto (tgt := 38) (eD DX8_faces 52 rfl) rfl (Go.pick [1, 2, 3, 0] rfl (k1 h1)))
  · refine go_icmp_gtF (tgt := 87) (eD DX8_faces 36 rfl) rfl (by omega) (show eI (4 * (w 33 24)) from by omega) h1 ?_
    refine go_iload_n (eD DX8_faces 37 rfl) rfl rfl (go_aload_n (eD DX8_faces 38 rfl) rfl rfl (go_iload (eD DX8_faces 39 rfl) rfl (go_iload_n (eD DX8_faces 40 rfl) rfl rfl (go_callV (ci := 8) [(0, px), (0, py)] (eD DX8_faces 41 rfl) ⟨eMem 6 193 rfl rfl, sX8_slopesOf⟩ ⟨Nat.le_of_ble_eq_true rfl, Nat.le_of_ble_eq_true rfl⟩ (by decide) ⟨rfl, by decide, _, rfl, rfl⟩ rfl rfl (Nat.le_of_ble_eq_true rfl) (g1 (by assumption)) (go_iload_n (eD DX8_faces 42 rfl) rfl rfl (?_))))))
    by_cases h2 : sl = set
    · refine go_icmp_neF (tgt := 78) (eD DX8_faces 43 rfl) rfl (by omega) (by omega) (not_not_intro h2) ?_
      exact go_iconst (eD DX8_faces 44 rfl) (go_goto (tgt := 79) (eD DX8_faces 45 rfl) rfl (go_iadd (eD DX8_faces 47 rfl) (go_istore_n (eD DX8_faces 48 rfl) rfl (by decide) (go_iinc (eD DX8_faces 49 rfl) rfl (by decide) (go_goto (tgt := 51) (eD DX8_faces 50 rfl) rfl (Go.pick [2, 3, 1, 4, 0] rfl (k2 h1 h2)))))))
    · refine go_icmp_neT (tgt := 78) (eD DX8_faces 43 rfl) rfl (by omega) (by omega) h2 ?_
      exact go_iconst (eD DX8_faces 46 rfl) (go_iadd (eD DX8_faces 47 rfl) (go_istore_n (eD DX8_faces 48 rfl) rfl (by decide) (go_iinc (eD DX8_faces 49 rfl) rfl (by decide) (go_goto (tgt := 51) (eD DX8_faces 50 rfl) rfl (Go.pick [2, 3, 1, 4, 0] rfl (k3 h1 h2))))))
set_option maxHeartbeats 4000000 in
set_option maxRecDepth 20000 in
theorem tX8_catches_0 {r : Option eV} {w9 : eW} (w : eW) (i : Int) {w1 : eW} {iw : Int} (hi : eI i) (hw : iw = 0 ∨ iw = 1) (g1 : Cal mX8_isWall [eR 33, (0, i)] (eU w 33 0 0) (some (0, iw)) w1) (k1 : iw = 0 → r = some (0, (-1)) ∧ w9 = (eU (eU w1 33 1 1) 33 2 (-1))) (k2 : ¬ (iw = 0) → Go mX8_catches 23 [(0, eR 33), (1, (0, i)), (2, (0, 0)), (3, (0, 0))] [] w1 r w9) : Go mX8_catches 0 [(0, eR 33), (1, (0, i))] [] w r w9 := by
  refine go_aload_n (eD DX8_catches 0 rfl) rfl rfl (go_iconst (eD DX8_catches 1 rfl) (go_putI (kz := 0) (eD DX8_catches 2 rfl) fX8_95 (by decide) rfl rfl (fun q h => by cases h; exact ⟨rfl, rfl⟩) rfl (go_aload_n (eD DX8_catches 3 rfl) rfl rfl (go_iload_n (eD DX8_catches 4 rfl) rfl rfl (go_callV (ci := 8) [(0, i)] (eD DX8_catches 5 rfl) ⟨eMem 6 149 rfl rfl, sX8_isWall⟩ ⟨Nat.le_of_ble_eq_true rfl, Nat.le_of_ble_eq_true rfl⟩ (by decide) ⟨rfl, by decide, _, rfl, rfl⟩ rfl rfl (Nat.le_of_ble_eq_true rfl) g1 (?_))))))
  by_cases h1 : iw = 0
  · refine go_if_neF (tgt := 19) (eD DX8_catches 6 rfl) rfl (by omega) (not_not_intro h1) ?_
    refine go_aload_n (eD DX8_catches 7 rfl) rfl rfl (go_iconst (eD DX8_catches 8 rfl) (?_))
    refine go_callV (ci := 8) [(0, 1)] (eD DX8_catches 9 rfl) ⟨eMem 5 233 rfl rfl, sX8_refused⟩ ⟨Nat.le_of_ble_eq_true rfl, Nat.le_of_ble_eq_true rfl⟩ (by decide) ⟨rfl, by decide, _, rfl, rfl⟩ rfl rfl (Nat.le_of_ble_eq_true rfl) (Cal.as (zX8_refused w1 1  ) (r2 := some (0, (-1))) (w2 := (eU (eU w1 33 1 1) 33 2 (-1))) (by (try simp only [rX8_refused, if_pos h1]) <;> (try rfl)) (by (try simp only [wX8_refused, if_pos h1]) <;> (try rfl))) (?_)
    rw [(k1 h1).1, (k1 h1).2]
    exact go_iret (eD DX8_catches 10 rfl) rfl
  · refine go_if_neT (tgt := 19) (eD DX8_catches 6 rfl) rfl (by omega) h1 ?_
    exact go_iconst (eD DX8_catches 11 rfl) (go_istore_n (eD DX8_catches 12 rfl) rfl (by decide) (go_iconst (eD DX8_catches 13 rfl) (go_istore_n (eD DX8_catches 14 rfl) rfl (by decide) (Go.pick [2, 3, 1, 0] rfl (k2 h1)))))
set_option maxHeartbeats 4000000 in
set_option maxRecDepth 20000 in
theorem tX8_catches_23 {r : Option eV} {w9 : eW} (w : eW) (i n py : Int) (hM : MB w) (hp : 0 ≤ py ∧ py ≤ 60) (k1 : (4 * (w 33 25)) < py → r = some (0, n) ∧ w9 = (eU (eU w 33 1 0) 33 2 (-1))) (k2 : ¬ ((4 * (w 33 25)) < py) → Go mX8_catches 36 [(0, eR 33), (1, (0, i)), (2, (0, n)), (3, (0, py)), (4, (0, 0))] [] w r w9) : Go mX8_catches 23 [(0, eR 33), (1, (0, i)), (2, (0, n)), (3, (0, py))] [] w r w9 := by
  obtain ⟨⟨c1, c2, c3, c4, c5, c6, c7, c8, c9, c10⟩, c11, c12, c13⟩ := id hM
  refine go_iload_n (eD DX8_catches 15 rfl) rfl rfl (go_iconst (eD DX8_catches 16 rfl) (go_aload_n (eD DX8_catches 17 rfl) rfl rfl (go_getI (kz := 25) (eD DX8_catches 18 rfl) fX8_219 (by decide) rfl rfl rfl (go_imul (eD DX8_catches 19 rfl) (?_)))))
  by_cases h1 : (4 * (w 33 25)) < py
  · refine go_icmp_gtT (tgt := 78) (eD DX8_catches 20 rfl) rfl (by omega) (show eI (4 * (w 33 25)) from by omega) h1 ?_
    refine go_aload_n (eD DX8_catches 45 rfl) rfl rfl (go_iload_n (eD DX8_catches 46 rfl) rfl rfl (?_))
    refine go_callV (ci := 8) [(0, n)] (eD DX8_catches 47 rfl) ⟨eMem 6 59 rfl rfl, sX8_good⟩ ⟨Nat.le_of_ble_eq_true rfl, Nat.le_of_ble_eq_true rfl⟩ (by decide) ⟨rfl, by decide, _, rfl, rfl⟩ rfl rfl (Nat.le_of_ble_eq_true rfl) (Cal.as (zX8_good w n  ) (r2 := some (0, n)) (w2 := (eU (eU w 33 1 0) 33 2 (-1))) (by (try simp only [rX8_good, if_pos h1]) <;> (try rfl)) (by (try simp only [wX8_good, if_pos h1]) <;> (try rfl))) (?_)
    rw [(k1 h1).1, (k1 h1).2]
    exact go_iret (eD DX8_catches 48 rfl) rfl
  · refine go_icmp_gtF (tgt := 78) (eD DX8_catches 20 rfl) rfl (by omega) (show eI (4 * (w 33 25)) from by omega) h1 ?_
    exact go_iconst (eD DX8_catches 21 rfl) (go_istore (eD DX8_catches 22 rfl) (by decide) (Go.pick [1, 2, 3, 4, 0] rfl (k2 h1)))
set_option maxHeartbeats 4000000 in
set_option maxRecDepth 20000 in
theorem tX8_catches_36 {r : Option eV} {w9 : eW} (w : eW) (i n py px : Int) {sl : Int} (hM : MB w) (hi : eI i) (hp : 0 ≤ px ∧ px ≤ 60) (g1 : ¬ 4 * w 33 24 < px → Cal mX8_dropOf [eR 33, (0, px), (0, py)] w (some (0, sl)) w) (hs : eI sl) (k1 : (4 * (w 33 24)) < px → Go mX8_catches 23 [(0, eR 33), (1, (0, i)), (2, (0, n)), (3, (0, py + 1))] [] w r w9) (k2 : ¬ ((4 * (w 33 24)) < px) → sl = i → Go mX8_catches 36 [(0, eR 33), (1, (0, i)), (2, (0, n + 1)), (3, (0, py)), (4, (0, px + 1))] [] w r w9) (k3 : ¬ ((4 * (w 33 24)) < px) → ¬ (sl = i) → Go mX8_catches 36 [(0, eR 33), (1, (0, i)), (2, (0, n + 0)), (3, (0, py)), (4, (0, px + 1))] [] w r w9) : Go mX8_catches 36 [(0, eR 33), (1, (0, i)), (2, (0, n)), (3, (0, py)), (4, (0, px))] [] w r w9 := by
  obtain ⟨⟨c1, c2, c3, c4, c5, c6, c7, c8, c9, c10⟩, c11, c12, c13⟩ := id hM
  refine go_iload (eD DX8_catches 23 rfl) rfl (go_iconst (eD DX8_catches 24 rfl) (go_aload_n (eD DX8_catches 25 rfl) rfl rfl (go_getI (kz := 24) (eD DX8_catches 26 rfl) fX8_216 (by decide) rfl rfl rfl (go_imul (eD DX8_catches 27 rfl) (?_)))))
  by_cases h1 : (4 * (w 33 24)) < px
  · refine go_icmp_gtT (tgt := 72) (eD DX8_catches 28 rfl) rfl (by omega) (show eI (4 * (w 33 24)) from by omega) h1 ?_
    exact go_iinc (eD DX8_catches 43 rfl) rfl (by decide) (go_goto (tgt := 23) (eD DX8_catches 44 rfl) rfl (Go.pick [1, 2, 3, 0] rfl (k1 h1)))
  · refine go_icmp_gtF (tgt := 72) (eD DX8_catches 28 rfl) rfl (by omega) (show eI (4 * (w 33 24)) from by omega) h1 ?_
    refine go_iload_n (eD DX8_catches 29 rfl) rfl rfl (go_aload_n (eD DX8_catches 30 rfl) rfl rfl (go_iload (eD DX8_catches 31 rfl) rfl (go_iload_n (eD DX8_catches 32 rfl) rfl rfl (go_callV (ci := 8) [(0, px), (0, py)] (eD DX8_catches 33 rfl) ⟨eMem 6 201 rfl rfl, sX8_dropOf⟩ ⟨Nat.le_of_ble_eq_true rfl, Nat.le_of_ble_eq_true rfl⟩ (by decide) ⟨rfl, by decide, _, rfl, rfl⟩ rfl rfl (Nat.le_of_ble_eq_true rfl) (g1 (by assumption)) (go_iload_n (eD DX8_catches 34 rfl) rfl rfl (?_))))))
    by_cases h2 : sl = i
    · refine go_icmp_neF (tgt := 63) (eD DX8_catches 35 rfl) rfl (by omega) (by omega) (not_not_intro h2) ?_
      exact go_iconst (eD DX8_catches 36 rfl) (go_goto (tgt := 64) (eD DX8_catches 37 rfl) rfl (go_iadd (eD DX8_catches 39 rfl) (go_istore_n (eD DX8_catches 40 rfl) rfl (by decide) (go_iinc (eD DX8_catches 41 rfl) rfl (by decide) (go_goto (tgt := 36) (eD DX8_catches 42 rfl) rfl (Go.pick [2, 3, 1, 4, 0] rfl (k2 h1 h2)))))))
    · refine go_icmp_neT (tgt := 63) (eD DX8_catches 35 rfl) rfl (by omega) (by omega) h2 ?_
      exact go_iconst (eD DX8_catches 38 rfl) (go_iadd (eD DX8_catches 39 rfl) (go_istore_n (eD DX8_catches 40 rfl) rfl (by decide) (go_iinc (eD DX8_catches 41 rfl) rfl (by decide) (go_goto (tgt := 36) (eD DX8_catches 42 rfl) rfl (Go.pick [2, 3, 1, 4, 0] rfl (k3 h1 h2))))))
set_option maxHeartbeats 4000000 in
set_option maxRecDepth 20000 in
theorem tX8_points_0 {r : Option eV} {w9 : eW} (w : eW) (a b : Int) (hM : MB w) (ha : eI a) (hb : eI b) (k1 : (w 33 28) = 0 → r = some (0, (-1)) ∧ w9 = (eU (eU (eU w 33 0 0) 33 1 1) 33 2 (-1))) (k2 : ¬ ((w 33 28) = 0) → 0 ≤ a ∧ a ≤ 9999 ∧ 1 ≤ b ∧ b ≤ 9999 → Go mX8_points 37 [(0, eR 33), (1, (0, a)), (2, (0, b)), (3, (0, 0)), (4, (0, 0))] [] (eU w 33 0 0) r w9) (k3 : ¬ ((w 33 28) = 0) → ¬ (0 ≤ a ∧ a ≤ 9999 ∧ 1 ≤ b ∧ b ≤ 9999) → r = some (0, (-1)) ∧ w9 = (eU (eU (eU w 33 0 0) 33 1 2) 33 2 (-1))) : Go mX8_points 0 [(0, eR 33), (1, (0, a)), (2, (0, b))] [] w r w9 := by
  obtain ⟨⟨c1, c2, c3, c4, c5, c6, c7, c8, c9, c10⟩, c11, c12, c13⟩ := id hM
  refine go_aload_n (eD DX8_points 0 rfl) rfl rfl (go_iconst (eD DX8_points 1 rfl) (go_putI (kz := 0) (eD DX8_points 2 rfl) fX8_95 (by decide) rfl rfl (fun q h => by cases h; exact ⟨rfl, rfl⟩) rfl (go_aload_n (eD DX8_points 3 rfl) rfl rfl (go_getI (kz := 28) (eD DX8_points 4 rfl) fX8_228 (by decide) rfl rfl rfl (?_)))))
  by_cases h1 : (w 33 28) = 0
  · refine go_if_neF (tgt := 18) (eD DX8_points 5 rfl) rfl (show eI (w 33 28) from by omega) (not_not_intro h1) ?_
    refine go_aload_n (eD DX8_points 6 rfl) rfl rfl (go_iconst (eD DX8_points 7 rfl) (?_))
    refine go_callV (ci := 8) [(0, 1)] (eD DX8_points 8 rfl) ⟨eMem 5 233 rfl rfl, sX8_refused⟩ ⟨Nat.le_of_ble_eq_true rfl, Nat.le_of_ble_eq_true rfl⟩ (by decide) ⟨rfl, by decide, _, rfl, rfl⟩ rfl rfl (Nat.le_of_ble_eq_true rfl) (Cal.as (zX8_refused (eU w 33 0 0) 1  ) (r2 := some (0, (-1))) (w2 := (eU (eU (eU w 33 0 0) 33 1 1) 33 2 (-1))) (by (try simp only [rX8_refused, if_pos h1]) <;> (try rfl)) (by (try simp only [wX8_refused, if_pos h1]) <;> (try rfl))) (?_)
    rw [(k1 h1).1, (k1 h1).2]
    exact go_iret (eD DX8_points 9 rfl) rfl
  · refine go_if_neT (tgt := 18) (eD DX8_points 5 rfl) rfl (show eI (w 33 28) from by omega) h1 ?_
    refine go_iload_n (eD DX8_points 10 rfl) rfl rfl (go_iload_n (eD DX8_points 11 rfl) rfl rfl (go_callS [(0, a), (0, b)] (eD DX8_points 12 rfl) ⟨eMem 7 1 rfl rfl, sX8_isTime⟩ ⟨Nat.le_of_ble_eq_true rfl, Nat.le_of_ble_eq_true rfl⟩ rfl rfl (Nat.le_of_ble_eq_true rfl) (y_b_X8_isTime (eU w 33 0 0) a b (by omega) (by omega) ) (?_)))
    by_cases h2 : 0 ≤ a ∧ a ≤ 9999 ∧ 1 ≤ b ∧ b ≤ 9999
    · refine go_if_neT (tgt := 32) (eD DX8_points 13 rfl) rfl (eI_pI _) (pI1 h2) ?_
      exact go_iconst (eD DX8_points 18 rfl) (go_istore_n (eD DX8_points 19 rfl) rfl (by decide) (go_iconst (eD DX8_points 20 rfl) (go_istore (eD DX8_points 21 rfl) (by decide) (Go.pick [2, 3, 4, 1, 0] rfl (k2 h1 h2)))))
    · refine go_if_neF (tgt := 32) (eD DX8_points 13 rfl) rfl (eI_pI _) (not_not_intro (pI0 h2)) ?_
      refine go_aload_n (eD DX8_points 14 rfl) rfl rfl (go_iconst (eD DX8_points 15 rfl) (?_))
      refine go_callV (ci := 8) [(0, 2)] (eD DX8_points 16 rfl) ⟨eMem 5 233 rfl rfl, sX8_refused⟩ ⟨Nat.le_of_ble_eq_true rfl, Nat.le_of_ble_eq_true rfl⟩ (by decide) ⟨rfl, by decide, _, rfl, rfl⟩ rfl rfl (Nat.le_of_ble_eq_true rfl) (Cal.as (zX8_refused (eU w 33 0 0) 2  ) (r2 := some (0, (-1))) (w2 := (eU (eU (eU w 33 0 0) 33 1 2) 33 2 (-1))) (by (try simp only [rX8_refused, if_neg h1, if_neg h2]) <;> (try rfl)) (by (try simp only [wX8_refused, if_neg h1, if_neg h2]) <;> (try rfl))) (?_)
      rw [(k3 h1 h2).1, (k3 h1 h2).2]
      exact go_iret (eD DX8_points 17 rfl) rfl
set_option maxHeartbeats 4000000 in
set_option maxRecDepth 20000 in
theorem tX8_points_37 {r : Option eV} {w9 : eW} (w : eW) (a b n py : Int) (hM : MB w) (hp : 0 ≤ py ∧ py ≤ 60) (k1 : (4 * (w 33 25)) < py → r = some (0, n) ∧ w9 = (eU (eU w 33 1 0) 33 2 (-1))) (k2 : ¬ ((4 * (w 33 25)) < py) → Go mX8_points 51 [(0, eR 33), (1, (0, a)), (2, (0, b)), (3, (0, n)), (4, (0, py)), (5, (0, 0))] [] w r w9) : Go mX8_points 37 [(0, eR 33), (1, (0, a)), (2, (0, b)), (3, (0, n)), (4, (0, py))] [] w r w9 := by
  obtain ⟨⟨c1, c2, c3, c4, c5, c6, c7, c8, c9, c10⟩, c11, c12, c13⟩ := id hM
  refine go_iload (eD DX8_points 22 rfl) rfl (go_iconst (eD DX8_points 23 rfl) (go_aload_n (eD DX8_points 24 rfl) rfl rfl (go_getI (kz := 25) (eD DX8_points 25 rfl) fX8_219 (by decide) rfl rfl rfl (go_imul (eD DX8_points 26 rfl) (?_)))))
  by_cases h1 : (4 * (w 33 25)) < py
  · refine go_icmp_gtT (tgt := 104) (eD DX8_points 27 rfl) rfl (by omega) (show eI (4 * (w 33 25)) from by omega) h1 ?_
    refine go_aload_n (eD DX8_points 60 rfl) rfl rfl (go_iload_n (eD DX8_points 61 rfl) rfl rfl (?_))
    refine go_callV (ci := 8) [(0, n)] (eD DX8_points 62 rfl) ⟨eMem 6 59 rfl rfl, sX8_good⟩ ⟨Nat.le_of_ble_eq_true rfl, Nat.le_of_ble_eq_true rfl⟩ (by decide) ⟨rfl, by decide, _, rfl, rfl⟩ rfl rfl (Nat.le_of_ble_eq_true rfl) (Cal.as (zX8_good w n  ) (r2 := some (0, n)) (w2 := (eU (eU w 33 1 0) 33 2 (-1))) (by (try simp only [rX8_good, if_pos h1]) <;> (try rfl)) (by (try simp only [wX8_good, if_pos h1]) <;> (try rfl))) (?_)
    rw [(k1 h1).1, (k1 h1).2]
    exact go_iret (eD DX8_points 63 rfl) rfl
  · refine go_icmp_gtF (tgt := 104) (eD DX8_points 27 rfl) rfl (by omega) (show eI (4 * (w 33 25)) from by omega) h1 ?_
    exact go_iconst (eD DX8_points 28 rfl) (go_istore (eD DX8_points 29 rfl) (by decide) (Go.pick [1, 2, 3, 4, 5, 0] rfl (k2 h1)))
set_option maxHeartbeats 4000000 in
set_option maxRecDepth 20000 in
theorem tX8_points_51 {r : Option eV} {w9 : eW} (w : eW) (a b n py px : Int) {sl : Int} (hM : MB w) (ha : eI a) (hb : eI b) (hj : eJ (sl * b)) (hp : 0 ≤ px ∧ px ≤ 60) (g1 : ¬ 4 * w 33 24 < px → Cal mX8_heightOf [eR 33, (0, px), (0, py)] w (some (0, sl)) w) (hs : eI sl) (k1 : (4 * (w 33 24)) < px → Go mX8_points 37 [(0, eR 33), (1, (0, a)), (2, (0, b)), (3, (0, n)), (4, (0, py + 1))] [] w r w9) (k2 : ¬ ((4 * (w 33 24)) < px) → (a * 10080) < (sl * b) → Go mX8_points 51 [(0, eR 33), (1, (0, a)), (2, (0, b)), (3, (0, n + 1)), (4, (0, py)), (5, (0, px + 1))] [] w r w9) (k3 : ¬ ((4 * (w 33 24)) < px) → ¬ ((a * 10080) < (sl * b)) → Go mX8_points 51 [(0, eR 33), (1, (0, a)), (2, (0, b)), (3, (0, n + 0)), (4, (0, py)), (5, (0, px + 1))] [] w r w9) : Go mX8_points 51 [(0, eR 33), (1, (0, a)), (2, (0, b)), (3, (0, n)), (4, (0, py)), (5, (0, px))] [] w r w9 := by
  obtain ⟨⟨c1, c2, c3, c4, c5, c6, c7, c8, c9, c10⟩, c11, c12, c13⟩ := id hM
  refine go_iload (eD DX8_points 30 rfl) rfl (go_iconst (eD DX8_points 31 rfl) (go_aload_n (eD DX8_points 32 rfl) rfl rfl (go_getI (kz := 24) (eD DX8_points 33 rfl) fX8_216 (by decide) rfl rfl rfl (go_imul (eD DX8_points 34 rfl) (?_)))))
  by_cases h1 : (4 * (w 33 24)) < px
  · refine go_icmp_gtT (tgt := 98) (eD DX8_points 35 rfl) rfl (by omega) (show eI (4 * (w 33 24)) from by omega) h1 ?_
    exact go_iinc (eD DX8_points 58 rfl) rfl (by decide) (go_goto (tgt := 37) (eD DX8_points 59 rfl) rfl (Go.pick [1, 2, 3, 4, 0] rfl (k1 h1)))
  · refine go_icmp_gtF (tgt := 98) (eD DX8_points 35 rfl) rfl (by omega) (show eI (4 * (w 33 24)) from by omega) h1 ?_
    refine go_iload_n (eD DX8_points 36 rfl) rfl rfl (go_aload_n (eD DX8_points 37 rfl) rfl rfl (go_iload (eD DX8_points 38 rfl) rfl (go_iload (eD DX8_points 39 rfl) rfl (go_callV (ci := 8) [(0, px), (0, py)] (eD DX8_points 40 rfl) ⟨eMem 6 173 rfl rfl, sX8_heightOf⟩ ⟨Nat.le_of_ble_eq_true rfl, Nat.le_of_ble_eq_true rfl⟩ (by decide) ⟨rfl, by decide, _, rfl, rfl⟩ rfl rfl (Nat.le_of_ble_eq_true rfl) (g1 (by assumption)) (go_i2l (eD DX8_points 41 rfl) (by omega) (go_iload_n (eD DX8_points 42 rfl) rfl rfl (go_i2l (eD DX8_points 43 rfl) (by omega) (go_lmul (eD DX8_points 44 rfl) (go_iload_n (eD DX8_points 45 rfl) rfl rfl (go_i2l (eD DX8_points 46 rfl) (by omega) (go_ldc2 (n := 10080) (eD DX8_points 47 rfl) (eMem 6 185 rfl rfl) (go_lmul (eD DX8_points 48 rfl) (?_)))))))))))))
    by_cases h2 : (a * 10080) < (sl * b)
    · refine go_lleF (tgt := 89) (eD DX8_points 49 rfl) (eD DX8_points 50 rfl) rfl (by omega) (by omega) (Int.not_le.mpr h2) ?_
      exact go_iconst (eD DX8_points 51 rfl) (go_goto (tgt := 90) (eD DX8_points 52 rfl) rfl (go_iadd (eD DX8_points 54 rfl) (go_istore_n (eD DX8_points 55 rfl) rfl (by decide) (go_iinc (eD DX8_points 56 rfl) rfl (by decide) (go_goto (tgt := 51) (eD DX8_points 57 rfl) rfl (Go.pick [2, 3, 4, 1, 5, 0] rfl (k2 h1 h2)))))))
    · refine go_lleT (tgt := 89) (eD DX8_points 49 rfl) (eD DX8_points 50 rfl) rfl (by omega) (by omega) (Int.not_lt.mp h2) ?_
      exact go_iconst (eD DX8_points 53 rfl) (go_iadd (eD DX8_points 54 rfl) (go_istore_n (eD DX8_points 55 rfl) rfl (by decide) (go_iinc (eD DX8_points 56 rfl) rfl (by decide) (go_goto (tgt := 51) (eD DX8_points 57 rfl) rfl (Go.pick [2, 3, 4, 1, 5, 0] rfl (k3 h1 h2))))))
set_option maxHeartbeats 4000000 in
set_option maxRecDepth 20000 in
theorem tX8_highest_0 {r : Option eV} {w9 : eW} (w : eW) (what : Int) (hM : MB w) (hw : eI what) (k1 : (w 33 28) = 0 → r = some (0, (-1)) ∧ w9 = (eU (eU (eU w 33 0 0) 33 1 1) 33 2 (-1))) (k2 : ¬ ((w 33 28) = 0) → 0 ≤ what ∧ what ≤ 1 → Go mX8_highest 37 [(0, eR 33), (1, (0, what)), (2, (0, (-1))), (3, (0, 0)), (4, (0, 0)), (5, (0, 0))] [] (eU w 33 0 0) r w9) (k3 : ¬ ((w 33 28) = 0) → ¬ (0 ≤ what ∧ what ≤ 1) → r = some (0, (-1)) ∧ w9 = (eU (eU (eU w 33 0 0) 33 1 1) 33 2 (-1))) : Go mX8_highest 0 [(0, eR 33), (1, (0, what))] [] w r w9 := by
  obtain ⟨⟨c1, c2, c3, c4, c5, c6, c7, c8, c9, c10⟩, c11, c12, c13⟩ := id hM
  refine go_aload_n (eD DX8_highest 0 rfl) rfl rfl (go_iconst (eD DX8_highest 1 rfl) (go_putI (kz := 0) (eD DX8_highest 2 rfl) fX8_95 (by decide) rfl rfl (fun q h => by cases h; exact ⟨rfl, rfl⟩) rfl (go_aload_n (eD DX8_highest 3 rfl) rfl rfl (go_getI (kz := 28) (eD DX8_highest 4 rfl) fX8_228 (by decide) rfl rfl rfl (?_)))))
  by_cases h1 : (w 33 28) = 0
  · refine go_if_eqT (tgt := 21) (eD DX8_highest 5 rfl) rfl (show eI (w 33 28) from by omega) h1 ?_
    refine go_aload_n (eD DX8_highest 11 rfl) rfl rfl (go_iconst (eD DX8_highest 12 rfl) (?_))
    refine go_callV (ci := 8) [(0, 1)] (eD DX8_highest 13 rfl) ⟨eMem 5 233 rfl rfl, sX8_refused⟩ ⟨Nat.le_of_ble_eq_true rfl, Nat.le_of_ble_eq_true rfl⟩ (by decide) ⟨rfl, by decide, _, rfl, rfl⟩ rfl rfl (Nat.le_of_ble_eq_true rfl) (Cal.as (zX8_refused (eU w 33 0 0) 1  ) (r2 := some (0, (-1))) (w2 := (eU (eU (eU w 33 0 0) 33 1 1) 33 2 (-1))) (by (try simp only [rX8_refused, if_pos h1]) <;> (try rfl)) (by (try simp only [wX8_refused, if_pos h1]) <;> (try rfl))) (?_)
    rw [(k1 h1).1, (k1 h1).2]
    exact go_iret (eD DX8_highest 14 rfl) rfl
  · refine go_if_eqF (tgt := 21) (eD DX8_highest 5 rfl) rfl (show eI (w 33 28) from by omega) h1 ?_
    refine go_iload_n (eD DX8_highest 6 rfl) rfl rfl (go_iconst (eD DX8_highest 7 rfl) (go_iconst (eD DX8_highest 8 rfl) (go_callS [(0, what), (0, 0), (0, 1)] (eD DX8_highest 9 rfl) ⟨eMem 5 230 rfl rfl, sX8_in⟩ ⟨Nat.le_of_ble_eq_true rfl, Nat.le_of_ble_eq_true rfl⟩ rfl rfl (Nat.le_of_ble_eq_true rfl) (y_b_X8_in (eU w 33 0 0) what 0 1 (by omega) (by decide) (by decide) ) (?_))))
    by_cases h2 : 0 ≤ what ∧ what ≤ 1
    · refine go_if_neT (tgt := 27) (eD DX8_highest 10 rfl) rfl (eI_pI _) (pI1 h2) ?_
      exact go_iconst (eD DX8_highest 15 rfl) (go_istore_n (eD DX8_highest 16 rfl) rfl (by decide) (go_iconst (eD DX8_highest 17 rfl) (go_istore_n (eD DX8_highest 18 rfl) rfl (by decide) (go_iconst (eD DX8_highest 19 rfl) (go_istore (eD DX8_highest 20 rfl) (by decide) (go_iconst (eD DX8_highest 21 rfl) (go_istore (eD DX8_highest 22 rfl) (by decide) (Go.pick [4, 5, 3, 2, 1, 0] rfl (k2 h1 h2)))))))))
    · refine go_if_neF (tgt := 27) (eD DX8_highest 10 rfl) rfl (eI_pI _) (not_not_intro (pI0 h2)) ?_
      refine go_aload_n (eD DX8_highest 11 rfl) rfl rfl (go_iconst (eD DX8_highest 12 rfl) (?_))
      refine go_callV (ci := 8) [(0, 1)] (eD DX8_highest 13 rfl) ⟨eMem 5 233 rfl rfl, sX8_refused⟩ ⟨Nat.le_of_ble_eq_true rfl, Nat.le_of_ble_eq_true rfl⟩ (by decide) ⟨rfl, by decide, _, rfl, rfl⟩ rfl rfl (Nat.le_of_ble_eq_true rfl) (Cal.as (zX8_refused (eU w 33 0 0) 1  ) (r2 := some (0, (-1))) (w2 := (eU (eU (eU w 33 0 0) 33 1 1) 33 2 (-1))) (by (try simp only [rX8_refused, if_neg h1, if_neg h2]) <;> (try rfl)) (by (try simp only [wX8_refused, if_neg h1, if_neg h2]) <;> (try rfl))) (?_)
      rw [(k3 h1 h2).1, (k3 h1 h2).2]
      exact go_iret (eD DX8_highest 14 rfl) rfl
set_option maxHeartbeats 4000000 in
set_option maxRecDepth 20000 in
theorem tX8_highest_37 {r : Option eV} {w9 : eW} (w : eW) (what most X Y py : Int) (hM : MB w) (hw : eI what) (hp : 0 ≤ py ∧ py ≤ 60) (k1 : (4 * (w 33 25)) < py → what = 0 → r = some (0, X) ∧ w9 = (eU (eU w 33 1 0) 33 2 (-1))) (k2 : (4 * (w 33 25)) < py → ¬ (what = 0) → r = some (0, Y) ∧ w9 = (eU (eU w 33 1 0) 33 2 (-1))) (k3 : ¬ ((4 * (w 33 25)) < py) → Go mX8_highest 51 [(0, eR 33), (1, (0, what)), (2, (0, most)), (3, (0, X)), (4, (0, Y)), (5, (0, py)), (6, (0, 0))] [] w r w9) : Go mX8_highest 37 [(0, eR 33), (1, (0, what)), (2, (0, most)), (3, (0, X)), (4, (0, Y)), (5, (0, py))] [] w r w9 := by
  obtain ⟨⟨c1, c2, c3, c4, c5, c6, c7, c8, c9, c10⟩, c11, c12, c13⟩ := id hM
  refine go_iload (eD DX8_highest 23 rfl) rfl (go_iconst (eD DX8_highest 24 rfl) (go_aload_n (eD DX8_highest 25 rfl) rfl rfl (go_getI (kz := 25) (eD DX8_highest 26 rfl) fX8_219 (by decide) rfl rfl rfl (go_imul (eD DX8_highest 27 rfl) (?_)))))
  by_cases h1 : (4 * (w 33 25)) < py
  · refine go_icmp_gtT (tgt := 103) (eD DX8_highest 28 rfl) rfl (by omega) (show eI (4 * (w 33 25)) from by omega) h1 ?_
    refine go_aload_n (eD DX8_highest 56 rfl) rfl rfl (go_iload_n (eD DX8_highest 57 rfl) rfl rfl (?_))
    by_cases h2 : what = 0
    · refine go_if_neF (tgt := 112) (eD DX8_highest 58 rfl) rfl (by omega) (not_not_intro h2) ?_
      refine go_iload_n (eD DX8_highest 59 rfl) rfl rfl (go_goto (tgt := 114) (eD DX8_highest 60 rfl) rfl (?_))
      refine go_callV (ci := 8) [(0, X)] (eD DX8_highest 62 rfl) ⟨eMem 6 59 rfl rfl, sX8_good⟩ ⟨Nat.le_of_ble_eq_true rfl, Nat.le_of_ble_eq_true rfl⟩ (by decide) ⟨rfl, by decide, _, rfl, rfl⟩ rfl rfl (Nat.le_of_ble_eq_true rfl) (Cal.as (zX8_good w X  ) (r2 := some (0, X)) (w2 := (eU (eU w 33 1 0) 33 2 (-1))) (by (try simp only [rX8_good, if_pos h1, if_pos h2]) <;> (try rfl)) (by (try simp only [wX8_good, if_pos h1, if_pos h2]) <;> (try rfl))) (?_)
      rw [(k1 h1 h2).1, (k1 h1 h2).2]
      exact go_iret (eD DX8_highest 63 rfl) rfl
    · refine go_if_neT (tgt := 112) (eD DX8_highest 58 rfl) rfl (by omega) h2 ?_
      refine go_iload (eD DX8_highest 61 rfl) rfl (?_)
      refine go_callV (ci := 8) [(0, Y)] (eD DX8_highest 62 rfl) ⟨eMem 6 59 rfl rfl, sX8_good⟩ ⟨Nat.le_of_ble_eq_true rfl, Nat.le_of_ble_eq_true rfl⟩ (by decide) ⟨rfl, by decide, _, rfl, rfl⟩ rfl rfl (Nat.le_of_ble_eq_true rfl) (Cal.as (zX8_good w Y  ) (r2 := some (0, Y)) (w2 := (eU (eU w 33 1 0) 33 2 (-1))) (by (try simp only [rX8_good, if_pos h1, if_neg h2]) <;> (try rfl)) (by (try simp only [wX8_good, if_pos h1, if_neg h2]) <;> (try rfl))) (?_)
      rw [(k2 h1 h2).1, (k2 h1 h2).2]
      exact go_iret (eD DX8_highest 63 rfl) rfl
  · refine go_icmp_gtF (tgt := 103) (eD DX8_highest 28 rfl) rfl (by omega) (show eI (4 * (w 33 25)) from by omega) h1 ?_
    exact go_iconst (eD DX8_highest 29 rfl) (go_istore (eD DX8_highest 30 rfl) (by decide) (Go.pick [1, 2, 3, 4, 5, 6, 0] rfl (k3 h1)))
set_option maxHeartbeats 4000000 in
set_option maxRecDepth 20000 in
theorem tX8_highest_51 {r : Option eV} {w9 : eW} (w : eW) (what most X Y py px : Int) {sl : Int} (hM : MB w) (hm : eI most) (hp : 0 ≤ px ∧ px ≤ 60) (g1 : ¬ 4 * w 33 24 < px → Cal mX8_heightOf [eR 33, (0, px), (0, py)] w (some (0, sl)) w) (hs : eI sl) (k1 : (4 * (w 33 24)) < px → Go mX8_highest 37 [(0, eR 33), (1, (0, what)), (2, (0, most)), (3, (0, X)), (4, (0, Y)), (5, (0, py + 1))] [] w r w9) (k2 : ¬ ((4 * (w 33 24)) < px) → most < sl → Go mX8_highest 51 [(0, eR 33), (1, (0, what)), (2, (0, sl)), (3, (0, px)), (4, (0, py)), (5, (0, py)), (6, (0, px + 1))] [] w r w9) (k3 : ¬ ((4 * (w 33 24)) < px) → ¬ (most < sl) → Go mX8_highest 51 [(0, eR 33), (1, (0, what)), (2, (0, most)), (3, (0, X)), (4, (0, Y)), (5, (0, py)), (6, (0, px + 1))] [] w r w9) : Go mX8_highest 51 [(0, eR 33), (1, (0, what)), (2, (0, most)), (3, (0, X)), (4, (0, Y)), (5, (0, py)), (6, (0, px))] [] w r w9 := by
  obtain ⟨⟨c1, c2, c3, c4, c5, c6, c7, c8, c9, c10⟩, c11, c12, c13⟩ := id hM
  refine go_iload (eD DX8_highest 31 rfl) rfl (go_iconst (eD DX8_highest 32 rfl) (go_aload_n (eD DX8_highest 33 rfl) rfl rfl (go_getI (kz := 24) (eD DX8_highest 34 rfl) fX8_216 (by decide) rfl rfl rfl (go_imul (eD DX8_highest 35 rfl) (?_)))))
  by_cases h1 : (4 * (w 33 24)) < px
  · refine go_icmp_gtT (tgt := 97) (eD DX8_highest 36 rfl) rfl (by omega) (show eI (4 * (w 33 24)) from by omega) h1 ?_
    exact go_iinc (eD DX8_highest 54 rfl) rfl (by decide) (go_goto (tgt := 37) (eD DX8_highest 55 rfl) rfl (Go.pick [1, 2, 3, 4, 5, 0] rfl (k1 h1)))
  · refine go_icmp_gtF (tgt := 97) (eD DX8_highest 36 rfl) rfl (by omega) (show eI (4 * (w 33 24)) from by omega) h1 ?_
    refine go_aload_n (eD DX8_highest 37 rfl) rfl rfl (go_iload (eD DX8_highest 38 rfl) rfl (go_iload (eD DX8_highest 39 rfl) rfl (go_callV (ci := 8) [(0, px), (0, py)] (eD DX8_highest 40 rfl) ⟨eMem 6 173 rfl rfl, sX8_heightOf⟩ ⟨Nat.le_of_ble_eq_true rfl, Nat.le_of_ble_eq_true rfl⟩ (by decide) ⟨rfl, by decide, _, rfl, rfl⟩ rfl rfl (Nat.le_of_ble_eq_true rfl) (g1 (by assumption)) (go_istore (eD DX8_highest 41 rfl) (by decide) (go_iload (eD DX8_highest 42 rfl) rfl (go_iload_n (eD DX8_highest 43 rfl) rfl rfl (?_)))))))
    by_cases h2 : most < sl
    · refine go_icmp_gtT (tgt := 81) (eD DX8_highest 44 rfl) rfl (by omega) (by omega) h2 ?_
      exact go_iload (eD DX8_highest 46 rfl) rfl (go_istore_n (eD DX8_highest 47 rfl) rfl (by decide) (go_iload (eD DX8_highest 48 rfl) rfl (go_istore_n (eD DX8_highest 49 rfl) rfl (by decide) (go_iload (eD DX8_highest 50 rfl) rfl (go_istore (eD DX8_highest 51 rfl) (by decide) (go_iinc (eD DX8_highest 52 rfl) rfl (by decide) (go_goto (tgt := 51) (eD DX8_highest 53 rfl) rfl (Go.pick [5, 6, 3, 2, 1, 7, 0] rfl (k2 h1 h2)))))))))
    · refine go_icmp_gtF (tgt := 81) (eD DX8_highest 44 rfl) rfl (by omega) (by omega) h2 ?_
      exact go_goto (tgt := 91) (eD DX8_highest 45 rfl) rfl (go_iinc (eD DX8_highest 52 rfl) rfl (by decide) (go_goto (tgt := 51) (eD DX8_highest 53 rfl) rfl (Go.pick [2, 3, 4, 5, 6, 7, 0] rfl (k3 h1 h2))))
set_option maxHeartbeats 4000000 in
set_option maxRecDepth 20000 in
theorem tX8_ranked_0 {r : Option eV} {w9 : eW} (w : eW) (i : Int) (hM : MB w) (hi : eI i) (k1 : (w 33 28) = 0 → r = some (0, (-1)) ∧ w9 = (eU (eU (eU w 33 0 0) 33 1 1) 33 2 (-1))) (k2 : ¬ ((w 33 28) = 0) → 0 ≤ i ∧ i ≤ ((w 33 26) - 1) → Go mX8_ranked 36 [(0, eR 33), (1, (0, i)), (2, (0, (-1))), (3, (0, 0))] [] (eU w 33 0 0) r w9) (k3 : ¬ ((w 33 28) = 0) → ¬ (0 ≤ i ∧ i ≤ ((w 33 26) - 1)) → r = some (0, (-1)) ∧ w9 = (eU (eU (eU w 33 0 0) 33 1 1) 33 2 (-1))) : Go mX8_ranked 0 [(0, eR 33), (1, (0, i))] [] w r w9 := by
  obtain ⟨⟨c1, c2, c3, c4, c5, c6, c7, c8, c9, c10⟩, c11, c12, c13⟩ := id hM
  refine go_aload_n (eD DX8_ranked 0 rfl) rfl rfl (go_iconst (eD DX8_ranked 1 rfl) (go_putI (kz := 0) (eD DX8_ranked 2 rfl) fX8_95 (by decide) rfl rfl (fun q h => by cases h; exact ⟨rfl, rfl⟩) rfl (go_aload_n (eD DX8_ranked 3 rfl) rfl rfl (go_getI (kz := 28) (eD DX8_ranked 4 rfl) fX8_228 (by decide) rfl rfl rfl (?_)))))
  by_cases h1 : (w 33 28) = 0
  · refine go_if_eqT (tgt := 26) (eD DX8_ranked 5 rfl) rfl (show eI (w 33 28) from by omega) h1 ?_
    refine go_aload_n (eD DX8_ranked 14 rfl) rfl rfl (go_iconst (eD DX8_ranked 15 rfl) (?_))
    refine go_callV (ci := 8) [(0, 1)] (eD DX8_ranked 16 rfl) ⟨eMem 5 233 rfl rfl, sX8_refused⟩ ⟨Nat.le_of_ble_eq_true rfl, Nat.le_of_ble_eq_true rfl⟩ (by decide) ⟨rfl, by decide, _, rfl, rfl⟩ rfl rfl (Nat.le_of_ble_eq_true rfl) (Cal.as (zX8_refused (eU w 33 0 0) 1  ) (r2 := some (0, (-1))) (w2 := (eU (eU (eU w 33 0 0) 33 1 1) 33 2 (-1))) (by (try simp only [rX8_refused, if_pos h1]) <;> (try rfl)) (by (try simp only [wX8_refused, if_pos h1]) <;> (try rfl))) (?_)
    rw [(k1 h1).1, (k1 h1).2]
    exact go_iret (eD DX8_ranked 17 rfl) rfl
  · refine go_if_eqF (tgt := 26) (eD DX8_ranked 5 rfl) rfl (show eI (w 33 28) from by omega) h1 ?_
    refine go_iload_n (eD DX8_ranked 6 rfl) rfl rfl (go_iconst (eD DX8_ranked 7 rfl) (go_aload_n (eD DX8_ranked 8 rfl) rfl rfl (go_getI (kz := 26) (eD DX8_ranked 9 rfl) fX8_222 (by decide) rfl rfl rfl (go_iconst (eD DX8_ranked 10 rfl) (go_isub (eD DX8_ranked 11 rfl) (go_callS [(0, i), (0, 0), (0, (w 33 26) - 1)] (eD DX8_ranked 12 rfl) ⟨eMem 5 230 rfl rfl, sX8_in⟩ ⟨Nat.le_of_ble_eq_true rfl, Nat.le_of_ble_eq_true rfl⟩ rfl rfl (Nat.le_of_ble_eq_true rfl) (y_b_X8_in (eU w 33 0 0) i 0 ((w 33 26) - 1) (by omega) (by decide) (show eI ((w 33 26) - 1) from by omega) ) (?_)))))))
    by_cases h2 : 0 ≤ i ∧ i ≤ ((w 33 26) - 1)
    · refine go_if_neT (tgt := 32) (eD DX8_ranked 13 rfl) rfl (eI_pI _) (pI1 h2) ?_
      exact go_iconst (eD DX8_ranked 18 rfl) (go_istore_n (eD DX8_ranked 19 rfl) rfl (by decide) (go_iconst (eD DX8_ranked 20 rfl) (go_istore_n (eD DX8_ranked 21 rfl) rfl (by decide) (Go.pick [2, 3, 1, 0] rfl (k2 h1 h2)))))
    · refine go_if_neF (tgt := 32) (eD DX8_ranked 13 rfl) rfl (eI_pI _) (not_not_intro (pI0 h2)) ?_
      refine go_aload_n (eD DX8_ranked 14 rfl) rfl rfl (go_iconst (eD DX8_ranked 15 rfl) (?_))
      refine go_callV (ci := 8) [(0, 1)] (eD DX8_ranked 16 rfl) ⟨eMem 5 233 rfl rfl, sX8_refused⟩ ⟨Nat.le_of_ble_eq_true rfl, Nat.le_of_ble_eq_true rfl⟩ (by decide) ⟨rfl, by decide, _, rfl, rfl⟩ rfl rfl (Nat.le_of_ble_eq_true rfl) (Cal.as (zX8_refused (eU w 33 0 0) 1  ) (r2 := some (0, (-1))) (w2 := (eU (eU (eU w 33 0 0) 33 1 1) 33 2 (-1))) (by (try simp only [rX8_refused, if_neg h1, if_neg h2]) <;> (try rfl)) (by (try simp only [wX8_refused, if_neg h1, if_neg h2]) <;> (try rfl))) (?_)
      rw [(k3 h1 h2).1, (k3 h1 h2).2]
      exact go_iret (eD DX8_ranked 17 rfl) rfl
set_option maxHeartbeats 4000000 in
set_option maxRecDepth 20000 in
theorem tX8_ranked_36 {r : Option eV} {w9 : eW} (w : eW) (i f k : Int) {hh : Int} (hM : MB w) (hk : 0 ≤ k ∧ k ≤ 8) (g1 : k < w 33 26 → Cal mX8_heightOf [eR 33, (0, w 40 (2 * k)), (0, w 40 ((2 * k) + 1))] w (some (0, hh)) w) (k1 : k < (w 33 26) → Go mX8_ranked 74 [(0, eR 33), (1, (0, i)), (2, (0, f)), (3, (0, k)), (4, (0, hh)), (5, (0, 0)), (6, (0, 0))] [] w r w9) (k2 : ¬ (k < (w 33 26)) → r = some (0, f) ∧ w9 = (eU (eU w 33 1 0) 33 2 (-1))) : Go mX8_ranked 36 [(0, eR 33), (1, (0, i)), (2, (0, f)), (3, (0, k))] [] w r w9 := by
  obtain ⟨⟨c1, c2, c3, c4, c5, c6, c7, c8, c9, c10⟩, c11, c12, c13⟩ := id hM
  refine go_iload_n (eD DX8_ranked 22 rfl) rfl rfl (go_aload_n (eD DX8_ranked 23 rfl) rfl rfl (go_getI (kz := 26) (eD DX8_ranked 24 rfl) fX8_222 (by decide) rfl rfl rfl (?_)))
  by_cases h1 : k < (w 33 26)
  · refine go_icmp_geF (tgt := 159) (eD DX8_ranked 25 rfl) rfl (by omega) (show eI (w 33 26) from by omega) (Int.not_le.mpr h1) ?_
    exact go_aload_n (eD DX8_ranked 26 rfl) rfl rfl (go_aload_n (eD DX8_ranked 27 rfl) rfl rfl (go_getR (t := 40) (eD DX8_ranked 28 rfl) fX8_32 (by decide) rfl ⟨rfl, rfl⟩ (go_iconst (eD DX8_ranked 29 rfl) (go_iload_n (eD DX8_ranked 30 rfl) rfl rfl (go_imul (eD DX8_ranked 31 rfl) (go_iald (n := 16) (eD DX8_ranked 32 rfl) (by decide) rfl (by omega) (go_aload_n (eD DX8_ranked 33 rfl) rfl rfl (go_getR (t := 40) (eD DX8_ranked 34 rfl) fX8_32 (by decide) rfl ⟨rfl, rfl⟩ (go_iconst (eD DX8_ranked 35 rfl) (go_iload_n (eD DX8_ranked 36 rfl) rfl rfl (go_imul (eD DX8_ranked 37 rfl) (go_iconst (eD DX8_ranked 38 rfl) (go_iadd (eD DX8_ranked 39 rfl) (go_iald (n := 16) (eD DX8_ranked 40 rfl) (by decide) rfl (by omega) (go_callV (ci := 8) [(0, w 40 (2 * k)), (0, w 40 ((2 * k) + 1))] (eD DX8_ranked 41 rfl) ⟨eMem 6 173 rfl rfl, sX8_heightOf⟩ ⟨Nat.le_of_ble_eq_true rfl, Nat.le_of_ble_eq_true rfl⟩ (by decide) ⟨rfl, by decide, _, rfl, rfl⟩ rfl rfl (Nat.le_of_ble_eq_true rfl) (g1 (by assumption)) (go_istore (eD DX8_ranked 42 rfl) (by decide) (go_iconst (eD DX8_ranked 43 rfl) (go_istore (eD DX8_ranked 44 rfl) (by decide) (go_iconst (eD DX8_ranked 45 rfl) (go_istore (eD DX8_ranked 46 rfl) (by decide) (Go.pick [3, 4, 5, 6, 2, 1, 0] rfl (k1 h1))))))))))))))))))))))
  · refine go_icmp_geT (tgt := 159) (eD DX8_ranked 25 rfl) rfl (by omega) (show eI (w 33 26) from by omega) (Int.not_lt.mp h1) ?_
    refine go_aload_n (eD DX8_ranked 92 rfl) rfl rfl (go_iload_n (eD DX8_ranked 93 rfl) rfl rfl (?_))
    refine go_callV (ci := 8) [(0, f)] (eD DX8_ranked 94 rfl) ⟨eMem 6 59 rfl rfl, sX8_good⟩ ⟨Nat.le_of_ble_eq_true rfl, Nat.le_of_ble_eq_true rfl⟩ (by decide) ⟨rfl, by decide, _, rfl, rfl⟩ rfl rfl (Nat.le_of_ble_eq_true rfl) (Cal.as (zX8_good w f  ) (r2 := some (0, f)) (w2 := (eU (eU w 33 1 0) 33 2 (-1))) (by (try simp only [rX8_good, if_neg h1]) <;> (try rfl)) (by (try simp only [wX8_good, if_neg h1]) <;> (try rfl))) (?_)
    rw [(k2 h1).1, (k2 h1).2]
    exact go_iret (eD DX8_ranked 95 rfl) rfl
set_option maxHeartbeats 4000000 in
set_option maxRecDepth 20000 in
theorem tX8_ranked_74 {r : Option eV} {w9 : eW} (w : eW) (i f k h ah o : Int) {hh : Int} (hM : MB w) (hi : eI i) (hk : 0 ≤ k ∧ k ≤ 8) (ho : 0 ≤ o ∧ o ≤ 8) (hha : eI hh) (hhb : eI h) (hah : eI ah) (g1 : o < w 33 26 → Cal mX8_heightOf [eR 33, (0, w 40 (2 * o)), (0, w 40 ((2 * o) + 1))] w (some (0, hh)) w) (k1 : o < (w 33 26) → h < hh → Go mX8_ranked 74 [(0, eR 33), (1, (0, i)), (2, (0, f)), (3, (0, k)), (4, (0, h)), (5, (0, ah + 1)), (6, (0, o + 1))] [] w r w9) (k2 : o < (w 33 26) → ¬ (h < hh) → hh = h → o < k → Go mX8_ranked 74 [(0, eR 33), (1, (0, i)), (2, (0, f)), (3, (0, k)), (4, (0, h)), (5, (0, ah + 1)), (6, (0, o + 1))] [] w r w9) (k3 : o < (w 33 26) → ¬ (h < hh) → hh = h → ¬ (o < k) → Go mX8_ranked 74 [(0, eR 33), (1, (0, i)), (2, (0, f)), (3, (0, k)), (4, (0, h)), (5, (0, ah + 0)), (6, (0, o + 1))] [] w r w9) (k4 : o < (w 33 26) → ¬ (h < hh) → ¬ (hh = h) → Go mX8_ranked 74 [(0, eR 33), (1, (0, i)), (2, (0, f)), (3, (0, k)), (4, (0, h)), (5, (0, ah + 0)), (6, (0, o + 1))] [] w r w9) (k5 : ¬ (o < (w 33 26)) → ah = i → Go mX8_ranked 36 [(0, eR 33), (1, (0, i)), (2, (0, k)), (3, (0, k + 1))] [] w r w9) (k6 : ¬ (o < (w 33 26)) → ¬ (ah = i) → Go mX8_ranked 36 [(0, eR 33), (1, (0, i)), (2, (0, f)), (3, (0, k + 1))] [] w r w9) : Go mX8_ranked 74 [(0, eR 33), (1, (0, i)), (2, (0, f)), (3, (0, k)), (4, (0, h)), (5, (0, ah)), (6, (0, o))] [] w r w9 := by
  obtain ⟨⟨c1, c2, c3, c4, c5, c6, c7, c8, c9, c10⟩, c11, c12, c13⟩ := id hM
  refine go_iload (eD DX8_ranked 47 rfl) rfl (go_aload_n (eD DX8_ranked 48 rfl) rfl rfl (go_getI (kz := 26) (eD DX8_ranked 49 rfl) fX8_222 (by decide) rfl rfl rfl (?_)))
  by_cases h1 : o < (w 33 26)
  · refine go_icmp_geF (tgt := 145) (eD DX8_ranked 50 rfl) rfl (by omega) (show eI (w 33 26) from by omega) (Int.not_le.mpr h1) ?_
    refine go_aload_n (eD DX8_ranked 51 rfl) rfl rfl (go_aload_n (eD DX8_ranked 52 rfl) rfl rfl (go_getR (t := 40) (eD DX8_ranked 53 rfl) fX8_32 (by decide) rfl ⟨rfl, rfl⟩ (go_iconst (eD DX8_ranked 54 rfl) (go_iload (eD DX8_ranked 55 rfl) rfl (go_imul (eD DX8_ranked 56 rfl) (go_iald (n := 16) (eD DX8_ranked 57 rfl) (by decide) rfl (by omega) (go_aload_n (eD DX8_ranked 58 rfl) rfl rfl (go_getR (t := 40) (eD DX8_ranked 59 rfl) fX8_32 (by decide) rfl ⟨rfl, rfl⟩ (go_iconst (eD DX8_ranked 60 rfl) (go_iload (eD DX8_ranked 61 rfl) rfl (go_imul (eD DX8_ranked 62 rfl) (go_iconst (eD DX8_ranked 63 rfl) (go_iadd (eD DX8_ranked 64 rfl) (go_iald (n := 16) (eD DX8_ranked 65 rfl) (by decide) rfl (by omega) (go_callV (ci := 8) [(0, w 40 (2 * o)), (0, w 40 ((2 * o) + 1))] (eD DX8_ranked 66 rfl) ⟨eMem 6 173 rfl rfl, sX8_heightOf⟩ ⟨Nat.le_of_ble_eq_true rfl, Nat.le_of_ble_eq_true rfl⟩ (by decide) ⟨rfl, by decide, _, rfl, rfl⟩ rfl rfl (Nat.le_of_ble_eq_true rfl) (g1 (by assumption)) (go_istore (eD DX8_ranked 67 rfl) (by decide) (go_iload (eD DX8_ranked 68 rfl) rfl (go_iload (eD DX8_ranked 69 rfl) rfl (go_iload (eD DX8_ranked 70 rfl) rfl (?_))))))))))))))))))))
    by_cases h2 : h < hh
    · refine go_icmp_gtT (tgt := 131) (eD DX8_ranked 71 rfl) rfl (by omega) (by omega) h2 ?_
      exact go_iconst (eD DX8_ranked 78 rfl) (go_goto (tgt := 136) (eD DX8_ranked 79 rfl) rfl (go_iadd (eD DX8_ranked 81 rfl) (go_istore (eD DX8_ranked 82 rfl) (by decide) (go_iinc (eD DX8_ranked 83 rfl) rfl (by decide) (go_goto (tgt := 74) (eD DX8_ranked 84 rfl) rfl (Go.pick [3, 4, 5, 6, 7, 1, 0] rfl (k1 h1 h2)))))))
    · refine go_icmp_gtF (tgt := 131) (eD DX8_ranked 71 rfl) rfl (by omega) (by omega) h2 ?_
      refine go_iload (eD DX8_ranked 72 rfl) rfl (go_iload (eD DX8_ranked 73 rfl) rfl (?_))
      by_cases h3 : hh = h
      · refine go_icmp_neF (tgt := 135) (eD DX8_ranked 74 rfl) rfl (by omega) (by omega) (not_not_intro h3) ?_
        refine go_iload (eD DX8_ranked 75 rfl) rfl (go_iload_n (eD DX8_ranked 76 rfl) rfl rfl (?_))
        by_cases h4 : o < k
        · refine go_icmp_geF (tgt := 135) (eD DX8_ranked 77 rfl) rfl (by omega) (by omega) (Int.not_le.mpr h4) ?_
          exact go_iconst (eD DX8_ranked 78 rfl) (go_goto (tgt := 136) (eD DX8_ranked 79 rfl) rfl (go_iadd (eD DX8_ranked 81 rfl) (go_istore (eD DX8_ranked 82 rfl) (by decide) (go_iinc (eD DX8_ranked 83 rfl) rfl (by decide) (go_goto (tgt := 74) (eD DX8_ranked 84 rfl) rfl (Go.pick [3, 4, 5, 6, 7, 1, 0] rfl (k2 h1 h2 h3 h4)))))))
        · refine go_icmp_geT (tgt := 135) (eD DX8_ranked 77 rfl) rfl (by omega) (by omega) (Int.not_lt.mp h4) ?_
          exact go_iconst (eD DX8_ranked 80 rfl) (go_iadd (eD DX8_ranked 81 rfl) (go_istore (eD DX8_ranked 82 rfl) (by decide) (go_iinc (eD DX8_ranked 83 rfl) rfl (by decide) (go_goto (tgt := 74) (eD DX8_ranked 84 rfl) rfl (Go.pick [3, 4, 5, 6, 7, 1, 0] rfl (k3 h1 h2 h3 h4))))))
      · refine go_icmp_neT (tgt := 135) (eD DX8_ranked 74 rfl) rfl (by omega) (by omega) h3 ?_
        exact go_iconst (eD DX8_ranked 80 rfl) (go_iadd (eD DX8_ranked 81 rfl) (go_istore (eD DX8_ranked 82 rfl) (by decide) (go_iinc (eD DX8_ranked 83 rfl) rfl (by decide) (go_goto (tgt := 74) (eD DX8_ranked 84 rfl) rfl (Go.pick [3, 4, 5, 6, 7, 1, 0] rfl (k4 h1 h2 h3))))))
  · refine go_icmp_geT (tgt := 145) (eD DX8_ranked 50 rfl) rfl (by omega) (show eI (w 33 26) from by omega) (Int.not_lt.mp h1) ?_
    refine go_iload (eD DX8_ranked 85 rfl) rfl (go_iload_n (eD DX8_ranked 86 rfl) rfl rfl (?_))
    by_cases h2 : ah = i
    · refine go_icmp_neF (tgt := 153) (eD DX8_ranked 87 rfl) rfl (by omega) (by omega) (not_not_intro h2) ?_
      exact go_iload_n (eD DX8_ranked 88 rfl) rfl rfl (go_istore_n (eD DX8_ranked 89 rfl) rfl (by decide) (go_iinc (eD DX8_ranked 90 rfl) rfl (by decide) (go_goto (tgt := 36) (eD DX8_ranked 91 rfl) rfl (Go.pick [2, 3, 1, 0] rfl (k5 h1 h2)))))
    · refine go_icmp_neT (tgt := 153) (eD DX8_ranked 87 rfl) rfl (by omega) (by omega) h2 ?_
      exact go_iinc (eD DX8_ranked 90 rfl) rfl (by decide) (go_goto (tgt := 36) (eD DX8_ranked 91 rfl) rfl (Go.pick [1, 2, 3, 0] rfl (k6 h1 h2)))
