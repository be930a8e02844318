def rX5_measuredAt (w : eW) (px py : Int) : Int := w 21 ((py * 57) + px)
set_option maxRecDepth 20000 in
theorem zX5_measuredAt (w : eW) (px py : Int) (hpx : eI px) (hpy : eI py) (hp : 0 ≤ px ∧ px ≤ 56 ∧ 0 ≤ py ∧ py ≤ 40) : Cal mX5_measuredAt [eR 16, (0, px), (0, py)] w (some (0, rX5_measuredAt w px py)) w := by
  have a1 : ¬ (((py * 57) + px) < 0) := by omega
  have a2 : ((py * 57) + px) < 2337 := by omega
  unfold rX5_measuredAt
  refine Cal.of (by decide +kernel) (Nat.le_of_ble_eq_true rfl) ?_
  show Go _ 0 [(0, eR 16), (1, (0, px)), (2, (0, py))] [] _ _ _
  refine go_iload_n (eD DX5_measuredAt 0 rfl) rfl rfl (go_bipush (eD DX5_measuredAt 1 rfl) (by decide) (go_imul (eD DX5_measuredAt 2 rfl) (go_iload_n (eD DX5_measuredAt 3 rfl) rfl rfl (go_iadd (eD DX5_measuredAt 4 rfl) (go_istore_n (eD DX5_measuredAt 5 rfl) rfl (by decide) (go_iload_n (eD DX5_measuredAt 6 rfl) rfl rfl (go_if_ltF (tgt := 29) (eD DX5_measuredAt 7 rfl) rfl (by omega) a1 (?_))))))))
  refine go_iload_n (eD DX5_measuredAt 8 rfl) rfl rfl (go_aload_n (eD DX5_measuredAt 9 rfl) rfl rfl (go_getR (t := 21) (eD DX5_measuredAt 10 rfl) fX5_24 (by decide) rfl ⟨rfl, rfl⟩ (go_alen (n := 2337) (eD DX5_measuredAt 11 rfl) (by decide) rfl (by decide) (go_icmp_geF (tgt := 29) (eD DX5_measuredAt 12 rfl) rfl (by omega) (by decide) (Int.not_le.mpr a2) (?_)))))
  exact go_aload_n (eD DX5_measuredAt 13 rfl) rfl rfl (go_getR (t := 21) (eD DX5_measuredAt 14 rfl) fX5_24 (by decide) rfl ⟨rfl, rfl⟩ (go_iload_n (eD DX5_measuredAt 15 rfl) rfl rfl (go_iald (n := 2337) (eD DX5_measuredAt 16 rfl) (by decide) rfl (by omega) (go_goto (tgt := 30) (eD DX5_measuredAt 17 rfl) rfl (go_iret (eD DX5_measuredAt 19 rfl) rfl)))))
theorem y_X5_measuredAt (w : eW) (px py : Int) (hp : 0 ≤ px ∧ px ≤ 56 ∧ 0 ≤ py ∧ py ≤ 40) : Cal mX5_measuredAt [eR 16, (0, px), (0, py)] w (some (0, w 21 ((py * 57) + px))) w := zX5_measuredAt w px py (by omega) (by omega) hp
set_option maxHeartbeats 4000000 in
set_option maxRecDepth 20000 in
theorem tX5_measureAll_0 {r : Option eV} {w9 : eW} (w : eW) {w1 : eW} (hz : eI (w 16 10)) (g1 : Cal mX5_readyHouse [eR 16] (eU w 16 10 1) none w1) (k1 : (w 16 10) = 0 → Go mX5_measureAll 19 [(0, eR 16), (1, (0, 0))] [] w1 r w9) (k2 : ¬ ((w 16 10) = 0) → r = none ∧ w9 = w) : Go mX5_measureAll 0 [(0, eR 16)] [] w r w9 := by
  refine go_aload_n (eD DX5_measureAll 0 rfl) rfl rfl (go_getI (kz := 10) (eD DX5_measureAll 1 rfl) fX5_39 (by decide) rfl rfl rfl (?_))
  by_cases h1 : (w 16 10) = 0
  · refine go_if_eqT (tgt := 8) (eD DX5_measureAll 2 rfl) rfl (show eI (w 16 10) from by omega) h1 ?_
    exact go_aload_n (eD DX5_measureAll 4 rfl) rfl rfl (go_iconst (eD DX5_measureAll 5 rfl) (go_putZ (kz := 10) (eD DX5_measureAll 6 rfl) fX5_39 (by decide) rfl rfl (fun q h => by cases h; exact ⟨rfl, rfl⟩) rfl (by decide) (go_aload_n (eD DX5_measureAll 7 rfl) rfl rfl (go_callV (ci := 5) [] (eD DX5_measureAll 8 rfl) ⟨eMem 3 147 rfl rfl, sX5_readyHouse⟩ ⟨Nat.le_of_ble_eq_true rfl, Nat.le_of_ble_eq_true rfl⟩ (by decide) ⟨rfl, by decide, _, rfl, rfl⟩ rfl rfl (Nat.le_of_ble_eq_true rfl) g1 (go_iconst (eD DX5_measureAll 9 rfl) (go_istore_n (eD DX5_measureAll 10 rfl) rfl (by decide) (Go.pick [1, 0] rfl (k1 h1))))))))
  · refine go_if_eqF (tgt := 8) (eD DX5_measureAll 2 rfl) rfl (show eI (w 16 10) from by omega) h1 ?_
    rw [(k2 h1).1, (k2 h1).2]
    exact go_vret (eD DX5_measureAll 3 rfl) rfl
set_option maxHeartbeats 4000000 in
set_option maxRecDepth 20000 in
theorem tX5_measureAll_19 {r : Option eV} {w9 : eW} (w : eW) (px : Int) {w1 : eW} (hB : HB w) (hp : 0 ≤ px ∧ px ≤ 60) (g1 : ¬ 4 * w 2 0 < px → Cal mX5_readyRows [eR 16, (0, px)] w none w1) (k1 : (4 * (w 2 0)) < px → Go mX5_measureAll 45 [(0, eR 16), (1, (0, 0))] [] w r w9) (k2 : ¬ ((4 * (w 2 0)) < px) → Go mX5_measureAll 19 [(0, eR 16), (1, (0, px + 1))] [] w1 r w9) : Go mX5_measureAll 19 [(0, eR 16), (1, (0, px))] [] w r w9 := by
  obtain ⟨⟨b1, b2, b3, b4, b5, b6⟩, b7, b8, b9⟩ := id hB
  refine go_iload_n (eD DX5_measureAll 11 rfl) rfl rfl (go_iconst (eD DX5_measureAll 12 rfl) (go_aload_n (eD DX5_measureAll 13 rfl) rfl rfl (go_getR (t := 2) (eD DX5_measureAll 14 rfl) fX5_45 (by decide) rfl ⟨rfl, rfl⟩ (go_getI (kz := 0) (eD DX5_measureAll 15 rfl) fX5_125 (by decide) rfl rfl rfl (go_imul (eD DX5_measureAll 16 rfl) (?_))))))
  by_cases h1 : (4 * (w 2 0)) < px
  · refine go_icmp_gtT (tgt := 43) (eD DX5_measureAll 17 rfl) rfl (by omega) (show eI (4 * (w 2 0)) from by omega) h1 ?_
    exact go_iconst (eD DX5_measureAll 23 rfl) (go_istore_n (eD DX5_measureAll 24 rfl) rfl (by decide) (Go.pick [1, 0] rfl (k1 h1)))
  · refine go_icmp_gtF (tgt := 43) (eD DX5_measureAll 17 rfl) rfl (by omega) (show eI (4 * (w 2 0)) from by omega) h1 ?_
    exact go_aload_n (eD DX5_measureAll 18 rfl) rfl rfl (go_iload_n (eD DX5_measureAll 19 rfl) rfl rfl (go_callV (ci := 5) [(0, px)] (eD DX5_measureAll 20 rfl) ⟨eMem 3 155 rfl rfl, sX5_readyRows⟩ ⟨Nat.le_of_ble_eq_true rfl, Nat.le_of_ble_eq_true rfl⟩ (by decide) ⟨rfl, by decide, _, rfl, rfl⟩ rfl rfl (Nat.le_of_ble_eq_true rfl) (g1 (by assumption)) (go_iinc (eD DX5_measureAll 21 rfl) rfl (by decide) (go_goto (tgt := 19) (eD DX5_measureAll 22 rfl) rfl (Go.pick [1, 0] rfl (k2 h1))))))
set_option maxHeartbeats 4000000 in
set_option maxRecDepth 20000 in
theorem tX5_measureAll_45 {r : Option eV} {w9 : eW} (w : eW) (py : Int) (hB : HB w) (hp : 0 ≤ py ∧ py ≤ 60) (k1 : (4 * (w 2 1)) < py → r = none ∧ w9 = w) (k2 : ¬ ((4 * (w 2 1)) < py) → Go mX5_measureAll 60 [(0, eR 16), (1, (0, py)), (2, (0, 0))] [] w r w9) : Go mX5_measureAll 45 [(0, eR 16), (1, (0, py))] [] w r w9 := by
  obtain ⟨⟨b1, b2, b3, b4, b5, b6⟩, b7, b8, b9⟩ := id hB
  refine go_iload_n (eD DX5_measureAll 25 rfl) rfl rfl (go_iconst (eD DX5_measureAll 26 rfl) (go_aload_n (eD DX5_measureAll 27 rfl) rfl rfl (go_getR (t := 2) (eD DX5_measureAll 28 rfl) fX5_45 (by decide) rfl ⟨rfl, rfl⟩ (go_getI (kz := 1) (eD DX5_measureAll 29 rfl) fX5_62 (by decide) rfl rfl rfl (go_imul (eD DX5_measureAll 30 rfl) (?_))))))
  by_cases h1 : (4 * (w 2 1)) < py
  · refine go_icmp_gtT (tgt := 117) (eD DX5_measureAll 31 rfl) rfl (by omega) (show eI (4 * (w 2 1)) from by omega) h1 ?_
    rw [(k1 h1).1, (k1 h1).2]
    exact go_vret (eD DX5_measureAll 66 rfl) rfl
  · refine go_icmp_gtF (tgt := 117) (eD DX5_measureAll 31 rfl) rfl (by omega) (show eI (4 * (w 2 1)) from by omega) h1 ?_
    exact go_iconst (eD DX5_measureAll 32 rfl) (go_istore_n (eD DX5_measureAll 33 rfl) rfl (by decide) (Go.pick [1, 2, 0] rfl (k2 h1)))
set_option maxHeartbeats 4000000 in
set_option maxRecDepth 20000 in
theorem tX5_measureAll_60 {r : Option eV} {w9 : eW} (w : eW) (py px : Int) (hh : Int) (hB : HB w) (hq : 0 ≤ py ∧ py ≤ 40) (hp : 0 ≤ px ∧ px ≤ 60) (g1 : ¬ 4 * w 2 0 < px → Cal mX5_leastReach [eR 16, (0, px), (0, py)] w (some (0, hh)) w) (k1 : (4 * (w 2 0)) < px → Go mX5_measureAll 45 [(0, eR 16), (1, (0, py + 1))] [] w r w9) (k2 : ¬ ((4 * (w 2 0)) < px) → ((py * 57) + px) < 0 → Go mX5_measureAll 60 [(0, eR 16), (1, (0, py)), (2, (0, px + 1))] [] w r w9) (k3 : ¬ ((4 * (w 2 0)) < px) → ¬ (((py * 57) + px) < 0) → ((py * 57) + px) < 2337 → Go mX5_measureAll 60 [(0, eR 16), (1, (0, py)), (2, (0, px + 1))] [] (eU w 21 ((py * 57) + px) hh) r w9) (k4 : ¬ ((4 * (w 2 0)) < px) → ¬ (((py * 57) + px) < 0) → ¬ (((py * 57) + px) < 2337) → Go mX5_measureAll 60 [(0, eR 16), (1, (0, py)), (2, (0, px + 1))] [] w r w9) : Go mX5_measureAll 60 [(0, eR 16), (1, (0, py)), (2, (0, px))] [] w r w9 := by
  obtain ⟨⟨b1, b2, b3, b4, b5, b6⟩, b7, b8, b9⟩ := id hB
  refine go_iload_n (eD DX5_measureAll 34 rfl) rfl rfl (go_iconst (eD DX5_measureAll 35 rfl) (go_aload_n (eD DX5_measureAll 36 rfl) rfl rfl (go_getR (t := 2) (eD DX5_measureAll 37 rfl) fX5_45 (by decide) rfl ⟨rfl, rfl⟩ (go_getI (kz := 0) (eD DX5_measureAll 38 rfl) fX5_125 (by decide) rfl rfl rfl (go_imul (eD DX5_measureAll 39 rfl) (?_))))))
  by_cases h1 : (4 * (w 2 0)) < px
  · refine go_icmp_gtT (tgt := 111) (eD DX5_measureAll 40 rfl) rfl (by omega) (show eI (4 * (w 2 0)) from by omega) h1 ?_
    exact go_iinc (eD DX5_measureAll 64 rfl) rfl (by decide) (go_goto (tgt := 45) (eD DX5_measureAll 65 rfl) rfl (Go.pick [1, 0] rfl (k1 h1)))
  · refine go_icmp_gtF (tgt := 111) (eD DX5_measureAll 40 rfl) rfl (by omega) (show eI (4 * (w 2 0)) from by omega) h1 ?_
    refine go_iload_n (eD DX5_measureAll 41 rfl) rfl rfl (go_bipush (eD DX5_measureAll 42 rfl) (by decide) (go_imul (eD DX5_measureAll 43 rfl) (go_iload_n (eD DX5_measureAll 44 rfl) rfl rfl (go_iadd (eD DX5_measureAll 45 rfl) (go_istore_n (eD DX5_measureAll 46 rfl) rfl (by decide) (go_iload_n (eD DX5_measureAll 47 rfl) rfl rfl (?_)))))))
    by_cases h2 : ((py * 57) + px) < 0
    · refine go_if_ltT (tgt := 105) (eD DX5_measureAll 48 rfl) rfl (by omega) h2 ?_
      exact go_iinc (eD DX5_measureAll 62 rfl) rfl (by decide) (go_goto (tgt := 60) (eD DX5_measureAll 63 rfl) rfl (Go.pick [2, 3, 0] rfl (k2 h1 h2)))
    · refine go_if_ltF (tgt := 105) (eD DX5_measureAll 48 rfl) rfl (by omega) h2 ?_
      refine go_iload_n (eD DX5_measureAll 49 rfl) rfl rfl (go_aload_n (eD DX5_measureAll 50 rfl) rfl rfl (go_getR (t := 21) (eD DX5_measureAll 51 rfl) fX5_24 (by decide) rfl ⟨rfl, rfl⟩ (go_alen (n := 2337) (eD DX5_measureAll 52 rfl) (by decide) rfl (by decide) (?_))))
      by_cases h3 : ((py * 57) + px) < 2337
      · refine go_icmp_geF (tgt := 105) (eD DX5_measureAll 53 rfl) rfl (by omega) (by decide) (Int.not_le.mpr h3) ?_
        exact go_aload_n (eD DX5_measureAll 54 rfl) rfl rfl (go_getR (t := 21) (eD DX5_measureAll 55 rfl) fX5_24 (by decide) rfl ⟨rfl, rfl⟩ (go_iload_n (eD DX5_measureAll 56 rfl) rfl rfl (go_aload_n (eD DX5_measureAll 57 rfl) rfl rfl (go_iload_n (eD DX5_measureAll 58 rfl) rfl rfl (go_iload_n (eD DX5_measureAll 59 rfl) rfl rfl (go_callV (ci := 5) [(0, px), (0, py)] (eD DX5_measureAll 60 rfl) ⟨eMem 3 180 rfl rfl, sX5_leastReach⟩ ⟨Nat.le_of_ble_eq_true rfl, Nat.le_of_ble_eq_true rfl⟩ (by decide) ⟨rfl, by decide, _, rfl, rfl⟩ rfl rfl (Nat.le_of_ble_eq_true rfl) (g1 (by assumption)) (go_iast (n := 2337) (eD DX5_measureAll 61 rfl) (by decide) rfl (by omega) (go_iinc (eD DX5_measureAll 62 rfl) rfl (by decide) (go_goto (tgt := 60) (eD DX5_measureAll 63 rfl) rfl (Go.pick [2, 3, 0] rfl (k3 h1 h2 h3)))))))))))
      · refine go_icmp_geT (tgt := 105) (eD DX5_measureAll 53 rfl) rfl (by omega) (by decide) (Int.not_lt.mp h3) ?_
        exact go_iinc (eD DX5_measureAll 62 rfl) rfl (by decide) (go_goto (tgt := 60) (eD DX5_measureAll 63 rfl) rfl (Go.pick [2, 3, 0] rfl (k4 h1 h2 h3)))
set_option maxHeartbeats 4000000 in
set_option maxRecDepth 20000 in
theorem tX5_countFall_0 {r : Option eV} {w9 : eW} (w : eW) (px py : Int) {sl dr : Int} (hp : 0 ≤ px ∧ px ≤ 56 ∧ 0 ≤ py ∧ py ≤ 40) (g1 : Cal mX5_slopesAt [eR 16, (0, px), (0, py), (0, w 21 ((py * 57) + px))] w (some (0, sl)) w) (hs : 0 ≤ sl ∧ sl < 16) (g2 : Cal mX5_wallBelow [eR 16, (0, px), (0, py), (0, w 21 ((py * 57) + px)), (0, sl)] (eU w 22 sl (w 22 sl + 1)) (some (0, dr)) (eU w 22 sl (w 22 sl + 1))) (hd : -2 ≤ dr ∧ dr < 280) (k1 : dr < 0 → r = none ∧ w9 = (eU w 22 sl ((w 22 sl) + 1))) (k2 : ¬ (dr < 0) → r = none ∧ w9 = (eU (eU w 22 sl ((w 22 sl) + 1)) 23 dr ((w 23 dr) + 1))) : Go mX5_countFall 0 [(0, eR 16), (1, (0, px)), (2, (0, py))] [] w r w9 := by
  have a1 : ¬ (sl < 0) := by omega
  have a2 : sl < 16 := by omega
  have a3 : dr < 280 := by omega
  refine go_aload_n (eD DX5_countFall 0 rfl) rfl rfl (go_iload_n (eD DX5_countFall 1 rfl) rfl rfl (go_iload_n (eD DX5_countFall 2 rfl) rfl rfl (go_callV (ci := 5) [(0, px), (0, py)] (eD DX5_countFall 3 rfl) ⟨eMem 4 9 rfl rfl, sX5_measuredAt⟩ ⟨Nat.le_of_ble_eq_true rfl, Nat.le_of_ble_eq_true rfl⟩ (by decide) ⟨rfl, by decide, _, rfl, rfl⟩ rfl rfl (Nat.le_of_ble_eq_true rfl) (y_X5_measuredAt w px py (by omega)) (go_istore_n (eD DX5_countFall 4 rfl) rfl (by decide) (go_aload_n (eD DX5_countFall 5 rfl) rfl rfl (go_iload_n (eD DX5_countFall 6 rfl) rfl rfl (go_iload_n (eD DX5_countFall 7 rfl) rfl rfl (go_iload_n (eD DX5_countFall 8 rfl) rfl rfl (go_callV (ci := 5) [(0, px), (0, py), (0, w 21 ((py * 57) + px))] (eD DX5_countFall 9 rfl) ⟨eMem 4 13 rfl rfl, sX5_slopesAt⟩ ⟨Nat.le_of_ble_eq_true rfl, Nat.le_of_ble_eq_true rfl⟩ (by decide) ⟨rfl, by decide, _, rfl, rfl⟩ rfl rfl (Nat.le_of_ble_eq_true rfl) g1 (go_istore (eD DX5_countFall 10 rfl) (by decide) (go_iload (eD DX5_countFall 11 rfl) rfl (go_if_ltF (tgt := 42) (eD DX5_countFall 12 rfl) rfl (by omega) a1 (?_)))))))))))))
  refine go_iload (eD DX5_countFall 13 rfl) rfl (go_aload_n (eD DX5_countFall 14 rfl) rfl rfl (go_getR (t := 22) (eD DX5_countFall 15 rfl) fX5_27 (by decide) rfl ⟨rfl, rfl⟩ (go_alen (n := 16) (eD DX5_countFall 16 rfl) (by decide) rfl (by decide) (go_icmp_geF (tgt := 42) (eD DX5_countFall 17 rfl) rfl (by omega) (by decide) (Int.not_le.mpr a2) (?_)))))
  refine go_aload_n (eD DX5_countFall 18 rfl) rfl rfl (go_getR (t := 22) (eD DX5_countFall 19 rfl) fX5_27 (by decide) rfl ⟨rfl, rfl⟩ (go_iload (eD DX5_countFall 20 rfl) rfl (go_dup2 (eD DX5_countFall 21 rfl) (by simp) (by simp) (go_iald (n := 16) (eD DX5_countFall 22 rfl) (by decide) rfl (by omega) (go_iconst (eD DX5_countFall 23 rfl) (go_iadd (eD DX5_countFall 24 rfl) (go_iast (n := 16) (eD DX5_countFall 25 rfl) (by decide) rfl (by omega) (go_aload_n (eD DX5_countFall 26 rfl) rfl rfl (go_iload_n (eD DX5_countFall 27 rfl) rfl rfl (go_iload_n (eD DX5_countFall 28 rfl) rfl rfl (go_iload_n (eD DX5_countFall 29 rfl) rfl rfl (go_iload (eD DX5_countFall 30 rfl) rfl (go_callV (ci := 5) [(0, px), (0, py), (0, w 21 ((py * 57) + px)), (0, sl)] (eD DX5_countFall 31 rfl) ⟨eMem 4 14 rfl rfl, sX5_wallBelow⟩ ⟨Nat.le_of_ble_eq_true rfl, Nat.le_of_ble_eq_true rfl⟩ (by decide) ⟨rfl, by decide, _, rfl, rfl⟩ rfl rfl (Nat.le_of_ble_eq_true rfl) g2 (go_istore (eD DX5_countFall 32 rfl) (by decide) (go_iload (eD DX5_countFall 33 rfl) rfl (?_))))))))))))))))
  by_cases h1 : dr < 0
  · refine go_if_ltT (tgt := 79) (eD DX5_countFall 34 rfl) rfl (by omega) h1 ?_
    rw [(k1 h1).1, (k1 h1).2]
    exact go_vret (eD DX5_countFall 48 rfl) rfl
  · refine go_if_ltF (tgt := 79) (eD DX5_countFall 34 rfl) rfl (by omega) h1 ?_
    refine go_iload (eD DX5_countFall 35 rfl) rfl (go_aload_n (eD DX5_countFall 36 rfl) rfl rfl (go_getR (t := 23) (eD DX5_countFall 37 rfl) fX5_32 (by decide) rfl ⟨rfl, rfl⟩ (go_alen (n := 280) (eD DX5_countFall 38 rfl) (by decide) rfl (by decide) (go_icmp_geF (tgt := 79) (eD DX5_countFall 39 rfl) rfl (by omega) (by decide) (Int.not_le.mpr a3) (?_)))))
    rw [(k2 h1).1, (k2 h1).2]
    exact go_aload_n (eD DX5_countFall 40 rfl) rfl rfl (go_getR (t := 23) (eD DX5_countFall 41 rfl) fX5_32 (by decide) rfl ⟨rfl, rfl⟩ (go_iload (eD DX5_countFall 42 rfl) rfl (go_dup2 (eD DX5_countFall 43 rfl) (by simp) (by simp) (go_iald (n := 280) (eD DX5_countFall 44 rfl) (by decide) rfl (by omega) (go_iconst (eD DX5_countFall 45 rfl) (go_iadd (eD DX5_countFall 46 rfl) (go_iast (n := 280) (eD DX5_countFall 47 rfl) (by decide) rfl (by omega) (go_vret (eD DX5_countFall 48 rfl) rfl))))))))
set_option maxHeartbeats 4000000 in
set_option maxRecDepth 20000 in
theorem tX5_countFalls_0 {r : Option eV} {w9 : eW} (w : eW) {w1 w2 : eW} (hz : eI (w 16 11)) (g1 : Cal mX5_measureAll [eR 16] (eU w 16 11 1) none w1) (g2 : Cal mX6_build [eR 13] w1 none w2) (k1 : (w 16 11) = 0 → Go mX5_countFalls 42 [(0, eR 16), (1, (0, 0))] [] (eFill (eFill w2 22 16 0) 23 280 0) r w9) (k2 : ¬ ((w 16 11) = 0) → r = none ∧ w9 = w) : Go mX5_countFalls 0 [(0, eR 16)] [] w r w9 := by
  refine go_aload_n (eD DX5_countFalls 0 rfl) rfl rfl (go_getI (kz := 11) (eD DX5_countFalls 1 rfl) fX5_42 (by decide) rfl rfl rfl (?_))
  by_cases h1 : (w 16 11) = 0
  · refine go_if_eqT (tgt := 8) (eD DX5_countFalls 2 rfl) rfl (show eI (w 16 11) from by omega) h1 ?_
    exact go_aload_n (eD DX5_countFalls 4 rfl) rfl rfl (go_iconst (eD DX5_countFalls 5 rfl) (go_putZ (kz := 11) (eD DX5_countFalls 6 rfl) fX5_42 (by decide) rfl rfl (fun q h => by cases h; exact ⟨rfl, rfl⟩) rfl (by decide) (go_aload_n (eD DX5_countFalls 7 rfl) rfl rfl (go_callV (ci := 5) [] (eD DX5_countFalls 8 rfl) ⟨eMem 3 239 rfl rfl, sX5_measureAll⟩ ⟨Nat.le_of_ble_eq_true rfl, Nat.le_of_ble_eq_true rfl⟩ (by decide) ⟨rfl, by decide, _, rfl, rfl⟩ rfl rfl (Nat.le_of_ble_eq_true rfl) g1 (go_aload_n (eD DX5_countFalls 9 rfl) rfl rfl (go_getR (t := 13) (eD DX5_countFalls 10 rfl) fX5_49 (by decide) rfl ⟨rfl, rfl⟩ (go_callV (ci := 6) [] (eD DX5_countFalls 11 rfl) ⟨eMem 4 3 rfl rfl, sX6_build⟩ ⟨Nat.le_of_ble_eq_true rfl, Nat.le_of_ble_eq_true rfl⟩ (by decide) ⟨rfl, by decide, _, rfl, rfl⟩ rfl rfl (Nat.le_of_ble_eq_true rfl) g2 (go_aload_n (eD DX5_countFalls 12 rfl) rfl rfl (go_getR (t := 22) (eD DX5_countFalls 13 rfl) fX5_27 (by decide) rfl ⟨rfl, rfl⟩ (go_iconst (eD DX5_countFalls 14 rfl) (go_callS [eR 22, (0, 0)] (eD DX5_countFalls 15 rfl) ⟨eMem 4 4 rfl rfl, sJ7_fill_53178⟩ ⟨Nat.le_of_ble_eq_true rfl, Nat.le_of_ble_eq_true rfl⟩ rfl rfl (Nat.le_of_ble_eq_true rfl) (y_J7_fill (n := 16) (by decide) rfl w2 0) (go_aload_n (eD DX5_countFalls 16 rfl) rfl rfl (go_getR (t := 23) (eD DX5_countFalls 17 rfl) fX5_32 (by decide) rfl ⟨rfl, rfl⟩ (go_iconst (eD DX5_countFalls 18 rfl) (go_callS [eR 23, (0, 0)] (eD DX5_countFalls 19 rfl) ⟨eMem 4 4 rfl rfl, sJ7_fill_53178⟩ ⟨Nat.le_of_ble_eq_true rfl, Nat.le_of_ble_eq_true rfl⟩ rfl rfl (Nat.le_of_ble_eq_true rfl) (y_J7_fill (n := 280) (by decide) rfl (eFill w2 22 16 0) 0) (go_iconst (eD DX5_countFalls 20 rfl) (go_istore_n (eD DX5_countFalls 21 rfl) rfl (by decide) (Go.pick [1, 0] rfl (k1 h1)))))))))))))))))))
  · refine go_if_eqF (tgt := 8) (eD DX5_countFalls 2 rfl) rfl (show eI (w 16 11) from by omega) h1 ?_
    rw [(k2 h1).1, (k2 h1).2]
    exact go_vret (eD DX5_countFalls 3 rfl) rfl
set_option maxHeartbeats 4000000 in
set_option maxRecDepth 20000 in
theorem tX5_countFalls_42 {r : Option eV} {w9 : eW} (w : eW) (py : Int) {w1 : eW} (hB : HB w) (hp : 0 ≤ py ∧ py ≤ 60) (g1 : ¬ 4 * w 2 1 < py → Cal mX5_readyColumns [eR 16, (0, py)] w none w1) (k1 : (4 * (w 2 1)) < py → r = none ∧ w9 = w) (k2 : ¬ ((4 * (w 2 1)) < py) → Go mX5_countFalls 62 [(0, eR 16), (1, (0, py)), (2, (0, 0))] [] w1 r w9) : Go mX5_countFalls 42 [(0, eR 16), (1, (0, py))] [] w r w9 := by
  obtain ⟨⟨b1, b2, b3, b4, b5, b6⟩, b7, b8, b9⟩ := id hB
  refine go_iload_n (eD DX5_countFalls 22 rfl) rfl rfl (go_iconst (eD DX5_countFalls 23 rfl) (go_aload_n (eD DX5_countFalls 24 rfl) rfl rfl (go_getR (t := 2) (eD DX5_countFalls 25 rfl) fX5_45 (by decide) rfl ⟨rfl, rfl⟩ (go_getI (kz := 1) (eD DX5_countFalls 26 rfl) fX5_62 (by decide) rfl rfl rfl (go_imul (eD DX5_countFalls 27 rfl) (?_))))))
  by_cases h1 : (4 * (w 2 1)) < py
  · refine go_icmp_gtT (tgt := 93) (eD DX5_countFalls 28 rfl) rfl (by omega) (show eI (4 * (w 2 1)) from by omega) h1 ?_
    rw [(k1 h1).1, (k1 h1).2]
    exact go_vret (eD DX5_countFalls 49 rfl) rfl
  · refine go_icmp_gtF (tgt := 93) (eD DX5_countFalls 28 rfl) rfl (by omega) (show eI (4 * (w 2 1)) from by omega) h1 ?_
    exact go_aload_n (eD DX5_countFalls 29 rfl) rfl rfl (go_iload_n (eD DX5_countFalls 30 rfl) rfl rfl (go_callV (ci := 5) [(0, py)] (eD DX5_countFalls 31 rfl) ⟨eMem 3 172 rfl rfl, sX5_readyColumns⟩ ⟨Nat.le_of_ble_eq_true rfl, Nat.le_of_ble_eq_true rfl⟩ (by decide) ⟨rfl, by decide, _, rfl, rfl⟩ rfl rfl (Nat.le_of_ble_eq_true rfl) (g1 (by assumption)) (go_iconst (eD DX5_countFalls 32 rfl) (go_istore_n (eD DX5_countFalls 33 rfl) rfl (by decide) (Go.pick [1, 2, 0] rfl (k2 h1))))))
set_option maxHeartbeats 4000000 in
set_option maxRecDepth 20000 in
theorem tX5_countFalls_62 {r : Option eV} {w9 : eW} (w : eW) (py px : Int) {w1 : eW} (hB : HB w) (hp : 0 ≤ px ∧ px ≤ 60) (g1 : ¬ 4 * w 2 0 < px → Cal mX5_countFall [eR 16, (0, px), (0, py)] w none w1) (k1 : (4 * (w 2 0)) < px → Go mX5_countFalls 42 [(0, eR 16), (1, (0, py + 1))] [] w r w9) (k2 : ¬ ((4 * (w 2 0)) < px) → Go mX5_countFalls 62 [(0, eR 16), (1, (0, py)), (2, (0, px + 1))] [] w1 r w9) : Go mX5_countFalls 62 [(0, eR 16), (1, (0, py)), (2, (0, px))] [] w r w9 := by
  obtain ⟨⟨b1, b2, b3, b4, b5, b6⟩, b7, b8, b9⟩ := id hB
  refine go_iload_n (eD DX5_countFalls 34 rfl) rfl rfl (go_iconst (eD DX5_countFalls 35 rfl) (go_aload_n (eD DX5_countFalls 36 rfl) rfl rfl (go_getR (t := 2) (eD DX5_countFalls 37 rfl) fX5_45 (by decide) rfl ⟨rfl, rfl⟩ (go_getI (kz := 0) (eD DX5_countFalls 38 rfl) fX5_125 (by decide) rfl rfl rfl (go_imul (eD DX5_countFalls 39 rfl) (?_))))))
  by_cases h1 : (4 * (w 2 0)) < px
  · refine go_icmp_gtT (tgt := 87) (eD DX5_countFalls 40 rfl) rfl (by omega) (show eI (4 * (w 2 0)) from by omega) h1 ?_
    exact go_iinc (eD DX5_countFalls 47 rfl) rfl (by decide) (go_goto (tgt := 42) (eD DX5_countFalls 48 rfl) rfl (Go.pick [1, 0] rfl (k1 h1)))
  · refine go_icmp_gtF (tgt := 87) (eD DX5_countFalls 40 rfl) rfl (by omega) (show eI (4 * (w 2 0)) from by omega) h1 ?_
    exact go_aload_n (eD DX5_countFalls 41 rfl) rfl rfl (go_iload_n (eD DX5_countFalls 42 rfl) rfl rfl (go_iload_n (eD DX5_countFalls 43 rfl) rfl rfl (go_callV (ci := 5) [(0, px), (0, py)] (eD DX5_countFalls 44 rfl) ⟨eMem 4 5 rfl rfl, sX5_countFall⟩ ⟨Nat.le_of_ble_eq_true rfl, Nat.le_of_ble_eq_true rfl⟩ (by decide) ⟨rfl, by decide, _, rfl, rfl⟩ rfl rfl (Nat.le_of_ble_eq_true rfl) (g1 (by assumption)) (go_iinc (eD DX5_countFalls 45 rfl) rfl (by decide) (go_goto (tgt := 62) (eD DX5_countFalls 46 rfl) rfl (Go.pick [1, 2, 0] rfl (k2 h1)))))))
set_option maxHeartbeats 4000000 in
set_option maxRecDepth 20000 in
theorem tX5_highestPlace_0 {r : Option eV} {w9 : eW} (w : eW) (what : Int) {w1 : eW} (g1 : Cal mX5_measureAll [eR 16] w none w1) (k1 : Go mX5_highestPlace 11 [(0, eR 16), (1, (0, what)), (2, (0, (-1))), (3, (0, 0)), (4, (0, 0))] [] w1 r w9) : Go mX5_highestPlace 0 [(0, eR 16), (1, (0, what))] [] w r w9 := by
  exact go_aload_n (eD DX5_highestPlace 0 rfl) rfl rfl (go_callV (ci := 5) [] (eD DX5_highestPlace 1 rfl) ⟨eMem 3 239 rfl rfl, sX5_measureAll⟩ ⟨Nat.le_of_ble_eq_true rfl, Nat.le_of_ble_eq_true rfl⟩ (by decide) ⟨rfl, by decide, _, rfl, rfl⟩ rfl rfl (Nat.le_of_ble_eq_true rfl) g1 (go_iconst (eD DX5_highestPlace 2 rfl) (go_istore_n (eD DX5_highestPlace 3 rfl) rfl (by decide) (go_iconst (eD DX5_highestPlace 4 rfl) (go_istore_n (eD DX5_highestPlace 5 rfl) rfl (by decide) (go_iconst (eD DX5_highestPlace 6 rfl) (go_istore (eD DX5_highestPlace 7 rfl) (by decide) (Go.pick [3, 4, 2, 1, 0] rfl (k1)))))))))
set_option maxHeartbeats 4000000 in
set_option maxRecDepth 20000 in
theorem tX5_highestPlace_11 {r : Option eV} {w9 : eW} (w : eW) (what best place py : Int) (hB : HB w) (hp : 0 ≤ py ∧ py ≤ 60) (k1 : (4 * (w 2 1)) < py → r = some (0, place) ∧ w9 = w) (k2 : ¬ ((4 * (w 2 1)) < py) → Go mX5_highestPlace 28 [(0, eR 16), (1, (0, what)), (2, (0, best)), (3, (0, place)), (4, (0, py)), (5, (0, 0))] [] w r w9) : Go mX5_highestPlace 11 [(0, eR 16), (1, (0, what)), (2, (0, best)), (3, (0, place)), (4, (0, py))] [] w r w9 := by
  obtain ⟨⟨b1, b2, b3, b4, b5, b6⟩, b7, b8, b9⟩ := id hB
  refine go_iload (eD DX5_highestPlace 8 rfl) rfl (go_iconst (eD DX5_highestPlace 9 rfl) (go_aload_n (eD DX5_highestPlace 10 rfl) rfl rfl (go_getR (t := 2) (eD DX5_highestPlace 11 rfl) fX5_45 (by decide) rfl ⟨rfl, rfl⟩ (go_getI (kz := 1) (eD DX5_highestPlace 12 rfl) fX5_62 (by decide) rfl rfl rfl (go_imul (eD DX5_highestPlace 13 rfl) (?_))))))
  by_cases h1 : (4 * (w 2 1)) < py
  · refine go_icmp_gtT (tgt := 87) (eD DX5_highestPlace 14 rfl) rfl (by omega) (show eI (4 * (w 2 1)) from by omega) h1 ?_
    rw [(k1 h1).1, (k1 h1).2]
    exact go_iload_n (eD DX5_highestPlace 45 rfl) rfl rfl (go_iret (eD DX5_highestPlace 46 rfl) rfl)
  · refine go_icmp_gtF (tgt := 87) (eD DX5_highestPlace 14 rfl) rfl (by omega) (show eI (4 * (w 2 1)) from by omega) h1 ?_
    exact go_iconst (eD DX5_highestPlace 15 rfl) (go_istore (eD DX5_highestPlace 16 rfl) (by decide) (Go.pick [1, 2, 3, 4, 5, 0] rfl (k2 h1)))
set_option maxHeartbeats 4000000 in
set_option maxRecDepth 20000 in
theorem tX5_highestPlace_28 {r : Option eV} {w9 : eW} (w : eW) (what best place py px : Int) (hB : HB w) (hq : 0 ≤ py ∧ py ≤ 40) (hp : 0 ≤ px ∧ px ≤ 60) (hw : eI what) (hb : eI best) (hm : ¬ 4 * w 2 0 < px → eI (w 21 ((py * 57) + px))) (k1 : (4 * (w 2 0)) < px → Go mX5_highestPlace 11 [(0, eR 16), (1, (0, what)), (2, (0, best)), (3, (0, place)), (4, (0, py + 1))] [] w r w9) (k2 : ¬ ((4 * (w 2 0)) < px) → best < (w 21 ((py * 57) + px)) → what = 0 → Go mX5_highestPlace 28 [(0, eR 16), (1, (0, what)), (2, (0, w 21 ((py * 57) + px))), (3, (0, px)), (4, (0, py)), (5, (0, px + 1))] [] w r w9) (k3 : ¬ ((4 * (w 2 0)) < px) → best < (w 21 ((py * 57) + px)) → ¬ (what = 0) → Go mX5_highestPlace 28 [(0, eR 16), (1, (0, what)), (2, (0, w 21 ((py * 57) + px))), (3, (0, py)), (4, (0, py)), (5, (0, px + 1))] [] w r w9) (k4 : ¬ ((4 * (w 2 0)) < px) → ¬ (best < (w 21 ((py * 57) + px))) → Go mX5_highestPlace 28 [(0, eR 16), (1, (0, what)), (2, (0, best)), (3, (0, place)), (4, (0, py)), (5, (0, px + 1))] [] w r w9) : Go mX5_highestPlace 28 [(0, eR 16), (1, (0, what)), (2, (0, best)), (3, (0, place)), (4, (0, py)), (5, (0, px))] [] w r w9 := by
  obtain ⟨⟨b1, b2, b3, b4, b5, b6⟩, b7, b8, b9⟩ := id hB
  refine go_iload (eD DX5_highestPlace 17 rfl) rfl (go_iconst (eD DX5_highestPlace 18 rfl) (go_aload_n (eD DX5_highestPlace 19 rfl) rfl rfl (go_getR (t := 2) (eD DX5_highestPlace 20 rfl) fX5_45 (by decide) rfl ⟨rfl, rfl⟩ (go_getI (kz := 0) (eD DX5_highestPlace 21 rfl) fX5_125 (by decide) rfl rfl rfl (go_imul (eD DX5_highestPlace 22 rfl) (?_))))))
  by_cases h1 : (4 * (w 2 0)) < px
  · refine go_icmp_gtT (tgt := 81) (eD DX5_highestPlace 23 rfl) rfl (by omega) (show eI (4 * (w 2 0)) from by omega) h1 ?_
    exact go_iinc (eD DX5_highestPlace 43 rfl) rfl (by decide) (go_goto (tgt := 11) (eD DX5_highestPlace 44 rfl) rfl (Go.pick [1, 2, 3, 4, 0] rfl (k1 h1)))
  · refine go_icmp_gtF (tgt := 81) (eD DX5_highestPlace 23 rfl) rfl (by omega) (show eI (4 * (w 2 0)) from by omega) h1 ?_
    refine go_aload_n (eD DX5_highestPlace 24 rfl) rfl rfl (go_iload (eD DX5_highestPlace 25 rfl) rfl (go_iload (eD DX5_highestPlace 26 rfl) rfl (go_callV (ci := 5) [(0, px), (0, py)] (eD DX5_highestPlace 27 rfl) ⟨eMem 4 9 rfl rfl, sX5_measuredAt⟩ ⟨Nat.le_of_ble_eq_true rfl, Nat.le_of_ble_eq_true rfl⟩ (by decide) ⟨rfl, by decide, _, rfl, rfl⟩ rfl rfl (Nat.le_of_ble_eq_true rfl) (y_X5_measuredAt w px py (by omega)) (go_iload_n (eD DX5_highestPlace 28 rfl) rfl rfl (?_)))))
    by_cases h2 : best < (w 21 ((py * 57) + px))
    · refine go_icmp_leF (tgt := 75) (eD DX5_highestPlace 29 rfl) rfl (show eI (w 21 ((py * 57) + px)) from by omega) (by omega) (Int.not_le.mpr h2) ?_
      refine go_aload_n (eD DX5_highestPlace 30 rfl) rfl rfl (go_iload (eD DX5_highestPlace 31 rfl) rfl (go_iload (eD DX5_highestPlace 32 rfl) rfl (go_callV (ci := 5) [(0, px), (0, py)] (eD DX5_highestPlace 33 rfl) ⟨eMem 4 9 rfl rfl, sX5_measuredAt⟩ ⟨Nat.le_of_ble_eq_true rfl, Nat.le_of_ble_eq_true rfl⟩ (by decide) ⟨rfl, by decide, _, rfl, rfl⟩ rfl rfl (Nat.le_of_ble_eq_true rfl) (y_X5_measuredAt w px py (by omega)) (go_istore_n (eD DX5_highestPlace 34 rfl) rfl (by decide) (go_iload_n (eD DX5_highestPlace 35 rfl) rfl rfl (?_))))))
      by_cases h3 : what = 0
      · refine go_if_neF (tgt := 72) (eD DX5_highestPlace 36 rfl) rfl (by omega) (not_not_intro h3) ?_
        exact go_iload (eD DX5_highestPlace 37 rfl) rfl (go_goto (tgt := 74) (eD DX5_highestPlace 38 rfl) rfl (go_istore_n (eD DX5_highestPlace 40 rfl) rfl (by decide) (go_iinc (eD DX5_highestPlace 41 rfl) rfl (by decide) (go_goto (tgt := 28) (eD DX5_highestPlace 42 rfl) rfl (Go.pick [3, 4, 2, 1, 5, 0] rfl (k2 h1 h2 h3))))))
      · refine go_if_neT (tgt := 72) (eD DX5_highestPlace 36 rfl) rfl (by omega) h3 ?_
        exact go_iload (eD DX5_highestPlace 39 rfl) rfl (go_istore_n (eD DX5_highestPlace 40 rfl) rfl (by decide) (go_iinc (eD DX5_highestPlace 41 rfl) rfl (by decide) (go_goto (tgt := 28) (eD DX5_highestPlace 42 rfl) rfl (Go.pick [3, 4, 2, 1, 5, 0] rfl (k3 h1 h2 h3)))))
    · refine go_icmp_leT (tgt := 75) (eD DX5_highestPlace 29 rfl) rfl (show eI (w 21 ((py * 57) + px)) from by omega) (by omega) (Int.not_lt.mp h2) ?_
      exact go_iinc (eD DX5_highestPlace 41 rfl) rfl (by decide) (go_goto (tgt := 28) (eD DX5_highestPlace 42 rfl) rfl (Go.pick [1, 2, 3, 4, 5, 0] rfl (k4 h1 h2)))
set_option maxHeartbeats 4000000 in
set_option maxRecDepth 20000 in
theorem tX5_countAbove_0 {r : Option eV} {w9 : eW} (w : eW) (a b : Int) {w1 : eW} (g1 : Cal mX5_measureAll [eR 16] w none w1) (k1 : Go mX5_countAbove 9 [(0, eR 16), (1, (0, a)), (2, (0, b)), (3, (0, 0)), (4, (0, 0))] [] w1 r w9) : Go mX5_countAbove 0 [(0, eR 16), (1, (0, a)), (2, (0, b))] [] w r w9 := by
  exact go_aload_n (eD DX5_countAbove 0 rfl) rfl rfl (go_callV (ci := 5) [] (eD DX5_countAbove 1 rfl) ⟨eMem 3 239 rfl rfl, sX5_measureAll⟩ ⟨Nat.le_of_ble_eq_true rfl, Nat.le_of_ble_eq_true rfl⟩ (by decide) ⟨rfl, by decide, _, rfl, rfl⟩ rfl rfl (Nat.le_of_ble_eq_true rfl) g1 (go_iconst (eD DX5_countAbove 2 rfl) (go_istore_n (eD DX5_countAbove 3 rfl) rfl (by decide) (go_iconst (eD DX5_countAbove 4 rfl) (go_istore (eD DX5_countAbove 5 rfl) (by decide) (Go.pick [2, 3, 4, 1, 0] rfl (k1)))))))
set_option maxHeartbeats 4000000 in
set_option maxRecDepth 20000 in
theorem tX5_countAbove_9 {r : Option eV} {w9 : eW} (w : eW) (a b n py : Int) (hB : HB w) (hp : 0 ≤ py ∧ py ≤ 60) (k1 : (4 * (w 2 1)) < py → r = some (0, n) ∧ w9 = w) (k2 : ¬ ((4 * (w 2 1)) < py) → Go mX5_countAbove 26 [(0, eR 16), (1, (0, a)), (2, (0, b)), (3, (0, n)), (4, (0, py)), (5, (0, 0))] [] w r w9) : Go mX5_countAbove 9 [(0, eR 16), (1, (0, a)), (2, (0, b)), (3, (0, n)), (4, (0, py))] [] w r w9 := by
  obtain ⟨⟨b1, b2, b3, b4, b5, b6⟩, b7, b8, b9⟩ := id hB
  refine go_iload (eD DX5_countAbove 6 rfl) rfl (go_iconst (eD DX5_countAbove 7 rfl) (go_aload_n (eD DX5_countAbove 8 rfl) rfl rfl (go_getR (t := 2) (eD DX5_countAbove 9 rfl) fX5_45 (by decide) rfl ⟨rfl, rfl⟩ (go_getI (kz := 1) (eD DX5_countAbove 10 rfl) fX5_62 (by decide) rfl rfl rfl (go_imul (eD DX5_countAbove 11 rfl) (?_))))))
  by_cases h1 : (4 * (w 2 1)) < py
  · refine go_icmp_gtT (tgt := 77) (eD DX5_countAbove 12 rfl) rfl (by omega) (show eI (4 * (w 2 1)) from by omega) h1 ?_
    rw [(k1 h1).1, (k1 h1).2]
    exact go_iload_n (eD DX5_countAbove 41 rfl) rfl rfl (go_iret (eD DX5_countAbove 42 rfl) rfl)
  · refine go_icmp_gtF (tgt := 77) (eD DX5_countAbove 12 rfl) rfl (by omega) (show eI (4 * (w 2 1)) from by omega) h1 ?_
    exact go_iconst (eD DX5_countAbove 13 rfl) (go_istore (eD DX5_countAbove 14 rfl) (by decide) (Go.pick [1, 2, 3, 4, 5, 0] rfl (k2 h1)))
set_option maxHeartbeats 4000000 in
set_option maxRecDepth 20000 in
theorem tX5_countAbove_26 {r : Option eV} {w9 : eW} (w : eW) (a b n py px : Int) (hB : HB w) (hq : 0 ≤ py ∧ py ≤ 40) (hp : 0 ≤ px ∧ px ≤ 60) (ha : eI a) (hb : eI b) (hm : ¬ 4 * w 2 0 < px → eI (w 21 ((py * 57) + px)) ∧ eJ (w 21 ((py * 57) + px) * b)) (hk : eJ (a * 10080)) (k1 : (4 * (w 2 0)) < px → Go mX5_countAbove 9 [(0, eR 16), (1, (0, a)), (2, (0, b)), (3, (0, n)), (4, (0, py + 1))] [] w r w9) (k2 : ¬ ((4 * (w 2 0)) < px) → (a * 10080) < ((w 21 ((py * 57) + px)) * b) → Go mX5_countAbove 26 [(0, eR 16), (1, (0, a)), (2, (0, b)), (3, (0, n + 1)), (4, (0, py)), (5, (0, px + 1))] [] w r w9) (k3 : ¬ ((4 * (w 2 0)) < px) → ¬ ((a * 10080) < ((w 21 ((py * 57) + px)) * b)) → Go mX5_countAbove 26 [(0, eR 16), (1, (0, a)), (2, (0, b)), (3, (0, n)), (4, (0, py)), (5, (0, px + 1))] [] w r w9) : Go mX5_countAbove 26 [(0, eR 16), (1, (0, a)), (2, (0, b)), (3, (0, n)), (4, (0, py)), (5, (0, px))] [] w r w9 := by
  obtain ⟨⟨b1, b2, b3, b4, b5, b6⟩, b7, b8, b9⟩ := id hB
  refine go_iload (eD DX5_countAbove 15 rfl) rfl (go_iconst (eD DX5_countAbove 16 rfl) (go_aload_n (eD DX5_countAbove 17 rfl) rfl rfl (go_getR (t := 2) (eD DX5_countAbove 18 rfl) fX5_45 (by decide) rfl ⟨rfl, rfl⟩ (go_getI (kz := 0) (eD DX5_countAbove 19 rfl) fX5_125 (by decide) rfl rfl rfl (go_imul (eD DX5_countAbove 20 rfl) (?_))))))
  by_cases h1 : (4 * (w 2 0)) < px
  · refine go_icmp_gtT (tgt := 71) (eD DX5_countAbove 21 rfl) rfl (by omega) (show eI (4 * (w 2 0)) from by omega) h1 ?_
    exact go_iinc (eD DX5_countAbove 39 rfl) rfl (by decide) (go_goto (tgt := 9) (eD DX5_countAbove 40 rfl) rfl (Go.pick [1, 2, 3, 4, 0] rfl (k1 h1)))
  · refine go_icmp_gtF (tgt := 71) (eD DX5_countAbove 21 rfl) rfl (by omega) (show eI (4 * (w 2 0)) from by omega) h1 ?_
    refine go_aload_n (eD DX5_countAbove 22 rfl) rfl rfl (go_iload (eD DX5_countAbove 23 rfl) rfl (go_iload (eD DX5_countAbove 24 rfl) rfl (go_callV (ci := 5) [(0, px), (0, py)] (eD DX5_countAbove 25 rfl) ⟨eMem 4 9 rfl rfl, sX5_measuredAt⟩ ⟨Nat.le_of_ble_eq_true rfl, Nat.le_of_ble_eq_true rfl⟩ (by decide) ⟨rfl, by decide, _, rfl, rfl⟩ rfl rfl (Nat.le_of_ble_eq_true rfl) (y_X5_measuredAt w px py (by omega)) (go_i2l (eD DX5_countAbove 26 rfl) (show eI (w 21 ((py * 57) + px)) from by omega) (go_iload_n (eD DX5_countAbove 27 rfl) rfl rfl (go_i2l (eD DX5_countAbove 28 rfl) (by omega) (go_lmul (eD DX5_countAbove 29 rfl) (go_iload_n (eD DX5_countAbove 30 rfl) rfl rfl (go_i2l (eD DX5_countAbove 31 rfl) (by omega) (go_ldc2 (n := 10080) (eD DX5_countAbove 32 rfl) (eMem 4 68 rfl rfl) (go_lmul (eD DX5_countAbove 33 rfl) (?_))))))))))))
    by_cases h2 : (a * 10080) < ((w 21 ((py * 57) + px)) * b)
    · refine go_lleF (tgt := 65) (eD DX5_countAbove 34 rfl) (eD DX5_countAbove 35 rfl) rfl (show eJ ((w 21 ((py * 57) + px)) * b) from by omega) (by omega) (Int.not_le.mpr h2) ?_
      exact go_iinc (eD DX5_countAbove 36 rfl) rfl (by decide) (go_iinc (eD DX5_countAbove 37 rfl) rfl (by decide) (go_goto (tgt := 26) (eD DX5_countAbove 38 rfl) rfl (Go.pick [2, 3, 4, 1, 5, 0] rfl (k2 h1 h2))))
    · refine go_lleT (tgt := 65) (eD DX5_countAbove 34 rfl) (eD DX5_countAbove 35 rfl) rfl (show eJ ((w 21 ((py * 57) + px)) * b) from by omega) (by omega) (Int.not_lt.mp h2) ?_
      exact go_iinc (eD DX5_countAbove 37 rfl) rfl (by decide) (go_goto (tgt := 26) (eD DX5_countAbove 38 rfl) rfl (Go.pick [1, 2, 3, 4, 5, 0] rfl (k3 h1 h2)))
