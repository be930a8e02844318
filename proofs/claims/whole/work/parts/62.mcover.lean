set_option maxHeartbeats 4000000 in
set_option maxRecDepth 20000 in
theorem tX8_isCovered_0 {r : Option eV} {w9 : eW} (w : eW) (mx my p q : Int) (k1 : Go mX8_isCovered 3 [(0, eR 33), (1, (1, mx)), (3, (1, my)), (5, (0, p)), (6, (0, q)), (7, (0, (-1)))] [] w r w9) : Go mX8_isCovered 0 [(0, eR 33), (1, (1, mx)), (3, (1, my)), (5, (0, p)), (6, (0, q))] [] w r w9 := by
  exact go_iconst (eD DX8_isCovered 0 rfl) (go_istore (eD DX8_isCovered 1 rfl) (by decide) (Go.pick [1, 2, 3, 4, 5, 0] rfl (k1)))
set_option maxHeartbeats 4000000 in
set_option maxRecDepth 20000 in
theorem tX8_isCovered_3 {r : Option eV} {w9 : eW} (w : eW) (mx my p q y : Int) (hM : MB w) (hsp : ∀ k, 140 ≤ k → k < 144 → 1 ≤ w 38 k ∧ w 38 k ≤ 9) (hp : 0 ≤ p ∧ p ≤ 10000) (hq : 1 ≤ q ∧ q ≤ 10000) (hx : -1000000 ≤ mx ∧ mx ≤ 1000000) (hy0 : -1000000 ≤ my ∧ my ≤ 1000000) (hy : -1 ≤ y ∧ y ≤ 11) (k1 : (w 33 25) < y → r = some (0, 0) ∧ w9 = w) (k2 : ¬ ((w 33 25) < y) → my < (2 * ((y * q) - ((w 38 142) * p))) → Go mX8_isCovered 3 [(0, eR 33), (1, (1, mx)), (3, (1, my)), (5, (0, p)), (6, (0, q)), (7, (0, y + 1))] [] w r w9) (k3 : ¬ ((w 33 25) < y) → ¬ (my < (2 * ((y * q) - ((w 38 142) * p)))) → (2 * (((y + 1) * q) + ((w 38 140) * p))) < my → Go mX8_isCovered 3 [(0, eR 33), (1, (1, mx)), (3, (1, my)), (5, (0, p)), (6, (0, q)), (7, (0, y + 1))] [] w r w9) (k4 : ¬ ((w 33 25) < y) → ¬ (my < (2 * ((y * q) - ((w 38 142) * p)))) → ¬ ((2 * (((y + 1) * q) + ((w 38 140) * p))) < my) → Go mX8_isCovered 74 [(0, eR 33), (1, (1, mx)), (3, (1, my)), (5, (0, p)), (6, (0, q)), (7, (0, y)), (8, (0, (-1)))] [] w r w9) : Go mX8_isCovered 3 [(0, eR 33), (1, (1, mx)), (3, (1, my)), (5, (0, p)), (6, (0, q)), (7, (0, y))] [] w r w9 := by
  obtain ⟨⟨c1, c2, c3, c4, c5, c6, c7, c8, c9, c10⟩, c11, c12, c13⟩ := id hM
  have s0 := hsp 140 (by decide) (by decide)
  have s1 := hsp 141 (by decide) (by decide)
  have s2 := hsp 142 (by decide) (by decide)
  have s3 := hsp 143 (by decide) (by decide)
  have := e_mulb (a := y) (b := q) (A := 11) (B := 10000) (by omega) (by omega) (by decide)
  have := e_mulb (a := y + 1) (b := q) (A := 12) (B := 10000) (by omega) (by omega) (by decide)
  have := e_mulb (a := w 38 142) (b := p) (A := 9) (B := 10000) (by omega) (by omega) (by decide)
  have := e_mulb (a := w 38 140) (b := p) (A := 9) (B := 10000) (by omega) (by omega) (by decide)
  refine go_iload (eD DX8_isCovered 2 rfl) rfl (go_aload_n (eD DX8_isCovered 3 rfl) rfl rfl (go_getI (kz := 25) (eD DX8_isCovered 4 rfl) fX8_219 (by decide) rfl rfl rfl (?_)))
  by_cases h1 : (w 33 25) < y
  · refine go_icmp_gtT (tgt := 167) (eD DX8_isCovered 5 rfl) rfl (by omega) (show eI (w 33 25) from by omega) h1 ?_
    rw [(k1 h1).1, (k1 h1).2]
    exact go_iconst (eD DX8_isCovered 101 rfl) (go_zret (eD DX8_isCovered 102 rfl) rfl (by decide))
  · refine go_icmp_gtF (tgt := 167) (eD DX8_isCovered 5 rfl) rfl (by omega) (show eI (w 33 25) from by omega) h1 ?_
    refine go_lload_n (eD DX8_isCovered 6 rfl) rfl rfl (go_ldc2 (n := 2) (eD DX8_isCovered 7 rfl) (eMem 6 121 rfl rfl) (go_iload (eD DX8_isCovered 8 rfl) rfl (go_i2l (eD DX8_isCovered 9 rfl) (by omega) (go_iload (eD DX8_isCovered 10 rfl) rfl (go_i2l (eD DX8_isCovered 11 rfl) (by omega) (go_lmul (eD DX8_isCovered 12 rfl) (go_aload_n (eD DX8_isCovered 13 rfl) rfl rfl (go_iconst (eD DX8_isCovered 14 rfl) (go_callV (ci := 8) [(0, 2)] (eD DX8_isCovered 15 rfl) ⟨eMem 6 97 rfl rfl, sX8_speedOf⟩ ⟨Nat.le_of_ble_eq_true rfl, Nat.le_of_ble_eq_true rfl⟩ (by decide) ⟨rfl, by decide, _, rfl, rfl⟩ rfl rfl (Nat.le_of_ble_eq_true rfl) (y_X8_speed2 w) (go_i2l (eD DX8_isCovered 16 rfl) (show eI (w 38 142) from by omega) (go_iload (eD DX8_isCovered 17 rfl) rfl (go_i2l (eD DX8_isCovered 18 rfl) (by omega) (go_lmul (eD DX8_isCovered 19 rfl) (go_lsub (eD DX8_isCovered 20 rfl) (go_lmul (eD DX8_isCovered 21 rfl) (?_))))))))))))))))
    by_cases h2 : my < (2 * ((y * q) - ((w 38 142) * p)))
    · refine go_lltT (tgt := 161) (eD DX8_isCovered 22 rfl) (eD DX8_isCovered 23 rfl) rfl (by omega) (show eJ (2 * ((y * q) - ((w 38 142) * p))) from by omega) h2 ?_
      exact go_iinc (eD DX8_isCovered 99 rfl) rfl (by decide) (go_goto (tgt := 3) (eD DX8_isCovered 100 rfl) rfl (Go.pick [1, 2, 3, 4, 5, 0] rfl (k2 h1 h2)))
    · refine go_lltF (tgt := 161) (eD DX8_isCovered 22 rfl) (eD DX8_isCovered 23 rfl) rfl (by omega) (show eJ (2 * ((y * q) - ((w 38 142) * p))) from by omega) h2 ?_
      refine go_lload_n (eD DX8_isCovered 24 rfl) rfl rfl (go_ldc2 (n := 2) (eD DX8_isCovered 25 rfl) (eMem 6 121 rfl rfl) (go_iload (eD DX8_isCovered 26 rfl) rfl (go_i2l (eD DX8_isCovered 27 rfl) (by omega) (go_lconst (n := 1) (eD DX8_isCovered 28 rfl) rfl (go_ladd (eD DX8_isCovered 29 rfl) (go_iload (eD DX8_isCovered 30 rfl) rfl (go_i2l (eD DX8_isCovered 31 rfl) (by omega) (go_lmul (eD DX8_isCovered 32 rfl) (go_aload_n (eD DX8_isCovered 33 rfl) rfl rfl (go_iconst (eD DX8_isCovered 34 rfl) (go_callV (ci := 8) [(0, 0)] (eD DX8_isCovered 35 rfl) ⟨eMem 6 97 rfl rfl, sX8_speedOf⟩ ⟨Nat.le_of_ble_eq_true rfl, Nat.le_of_ble_eq_true rfl⟩ (by decide) ⟨rfl, by decide, _, rfl, rfl⟩ rfl rfl (Nat.le_of_ble_eq_true rfl) (y_X8_speed0 w) (go_i2l (eD DX8_isCovered 36 rfl) (show eI (w 38 140) from by omega) (go_iload (eD DX8_isCovered 37 rfl) rfl (go_i2l (eD DX8_isCovered 38 rfl) (by omega) (go_lmul (eD DX8_isCovered 39 rfl) (go_ladd (eD DX8_isCovered 40 rfl) (go_lmul (eD DX8_isCovered 41 rfl) (?_))))))))))))))))))
      by_cases h3 : (2 * (((y + 1) * q) + ((w 38 140) * p))) < my
      · refine go_lleF (tgt := 71) (eD DX8_isCovered 42 rfl) (eD DX8_isCovered 43 rfl) rfl (by omega) (show eJ (2 * (((y + 1) * q) + ((w 38 140) * p))) from by omega) (Int.not_le.mpr h3) ?_
        exact go_goto (tgt := 161) (eD DX8_isCovered 44 rfl) rfl (go_iinc (eD DX8_isCovered 99 rfl) rfl (by decide) (go_goto (tgt := 3) (eD DX8_isCovered 100 rfl) rfl (Go.pick [1, 2, 3, 4, 5, 0] rfl (k3 h1 h2 h3))))
      · refine go_lleT (tgt := 71) (eD DX8_isCovered 42 rfl) (eD DX8_isCovered 43 rfl) rfl (by omega) (show eJ (2 * (((y + 1) * q) + ((w 38 140) * p))) from by omega) (Int.not_lt.mp h3) ?_
        exact go_iconst (eD DX8_isCovered 45 rfl) (go_istore (eD DX8_isCovered 46 rfl) (by decide) (Go.pick [1, 2, 3, 4, 5, 6, 0] rfl (k4 h1 h2 h3)))
set_option maxHeartbeats 4000000 in
set_option maxRecDepth 20000 in
theorem tX8_isCovered_74 {r : Option eV} {w9 : eW} (w : eW) (mx my p q y x : Int) (hM : MB w) (hsp : ∀ k, 140 ≤ k → k < 144 → 1 ≤ w 38 k ∧ w 38 k ≤ 9) (hp : 0 ≤ p ∧ p ≤ 10000) (hq : 1 ≤ q ∧ q ≤ 10000) (hx : -1000000 ≤ mx ∧ mx ≤ 1000000) (hy0 : -1000000 ≤ my ∧ my ≤ 1000000) (hy : -1 ≤ y ∧ y ≤ 11) (hx8 : -1 ≤ x ∧ x ≤ 15) (k1 : (w 33 24) < x → Go mX8_isCovered 3 [(0, eR 33), (1, (1, mx)), (3, (1, my)), (5, (0, p)), (6, (0, q)), (7, (0, y + 1))] [] w r w9) (k2 : ¬ ((w 33 24) < x) → insM w x y → Go mX8_isCovered 74 [(0, eR 33), (1, (1, mx)), (3, (1, my)), (5, (0, p)), (6, (0, q)), (7, (0, y)), (8, (0, x + 1))] [] w r w9) (k3 : ¬ ((w 33 24) < x) → ¬ (insM w x y) → (2 * ((x * q) - ((w 38 141) * p))) < mx → mx < (2 * (((x + 1) * q) + ((w 38 143) * p))) → r = some (0, 1) ∧ w9 = w) (k4 : ¬ ((w 33 24) < x) → ¬ (insM w x y) → (2 * ((x * q) - ((w 38 141) * p))) < mx → ¬ (mx < (2 * (((x + 1) * q) + ((w 38 143) * p)))) → Go mX8_isCovered 74 [(0, eR 33), (1, (1, mx)), (3, (1, my)), (5, (0, p)), (6, (0, q)), (7, (0, y)), (8, (0, x + 1))] [] w r w9) (k5 : ¬ ((w 33 24) < x) → ¬ (insM w x y) → ¬ ((2 * ((x * q) - ((w 38 141) * p))) < mx) → Go mX8_isCovered 74 [(0, eR 33), (1, (1, mx)), (3, (1, my)), (5, (0, p)), (6, (0, q)), (7, (0, y)), (8, (0, x + 1))] [] w r w9) : Go mX8_isCovered 74 [(0, eR 33), (1, (1, mx)), (3, (1, my)), (5, (0, p)), (6, (0, q)), (7, (0, y)), (8, (0, x))] [] w r w9 := by
  obtain ⟨⟨c1, c2, c3, c4, c5, c6, c7, c8, c9, c10⟩, c11, c12, c13⟩ := id hM
  have s0 := hsp 140 (by decide) (by decide)
  have s1 := hsp 141 (by decide) (by decide)
  have s2 := hsp 142 (by decide) (by decide)
  have s3 := hsp 143 (by decide) (by decide)
  have := e_mulb (a := x) (b := q) (A := 15) (B := 10000) (by omega) (by omega) (by decide)
  have := e_mulb (a := x + 1) (b := q) (A := 16) (B := 10000) (by omega) (by omega) (by decide)
  have := e_mulb (a := w 38 141) (b := p) (A := 9) (B := 10000) (by omega) (by omega) (by decide)
  have := e_mulb (a := w 38 143) (b := p) (A := 9) (B := 10000) (by omega) (by omega) (by decide)
  refine go_iload (eD DX8_isCovered 47 rfl) rfl (go_aload_n (eD DX8_isCovered 48 rfl) rfl rfl (go_getI (kz := 24) (eD DX8_isCovered 49 rfl) fX8_216 (by decide) rfl rfl rfl (?_)))
  by_cases h1 : (w 33 24) < x
  · refine go_icmp_gtT (tgt := 161) (eD DX8_isCovered 50 rfl) rfl (by omega) (show eI (w 33 24) from by omega) h1 ?_
    exact go_iinc (eD DX8_isCovered 99 rfl) rfl (by decide) (go_goto (tgt := 3) (eD DX8_isCovered 100 rfl) rfl (Go.pick [1, 2, 3, 4, 5, 0] rfl (k1 h1)))
  · refine go_icmp_gtF (tgt := 161) (eD DX8_isCovered 50 rfl) rfl (by omega) (show eI (w 33 24) from by omega) h1 ?_
    refine go_aload_n (eD DX8_isCovered 51 rfl) rfl rfl (go_iload (eD DX8_isCovered 52 rfl) rfl (go_iload (eD DX8_isCovered 53 rfl) rfl (go_callV (ci := 8) [(0, x), (0, y)] (eD DX8_isCovered 54 rfl) ⟨eMem 6 75 rfl rfl, sX8_isInside⟩ ⟨Nat.le_of_ble_eq_true rfl, Nat.le_of_ble_eq_true rfl⟩ (by decide) ⟨rfl, by decide, _, rfl, rfl⟩ rfl rfl (Nat.le_of_ble_eq_true rfl) (y_b_X8_isInside w x y (by omega) (by omega) (by assumption)) (?_))))
    by_cases h2 : insM w x y
    · refine go_if_eqF (tgt := 97) (eD DX8_isCovered 55 rfl) rfl (eI_pI _) (pI1 h2) ?_
      exact go_goto (tgt := 155) (eD DX8_isCovered 56 rfl) rfl (go_iinc (eD DX8_isCovered 97 rfl) rfl (by decide) (go_goto (tgt := 74) (eD DX8_isCovered 98 rfl) rfl (Go.pick [1, 2, 3, 4, 5, 6, 0] rfl (k2 h1 h2))))
    · refine go_if_eqT (tgt := 97) (eD DX8_isCovered 55 rfl) rfl (eI_pI _) (pI0 h2) ?_
      refine go_lload_n (eD DX8_isCovered 57 rfl) rfl rfl (go_ldc2 (n := 2) (eD DX8_isCovered 58 rfl) (eMem 6 121 rfl rfl) (go_iload (eD DX8_isCovered 59 rfl) rfl (go_i2l (eD DX8_isCovered 60 rfl) (by omega) (go_iload (eD DX8_isCovered 61 rfl) rfl (go_i2l (eD DX8_isCovered 62 rfl) (by omega) (go_lmul (eD DX8_isCovered 63 rfl) (go_aload_n (eD DX8_isCovered 64 rfl) rfl rfl (go_iconst (eD DX8_isCovered 65 rfl) (go_callV (ci := 8) [(0, 1)] (eD DX8_isCovered 66 rfl) ⟨eMem 6 97 rfl rfl, sX8_speedOf⟩ ⟨Nat.le_of_ble_eq_true rfl, Nat.le_of_ble_eq_true rfl⟩ (by decide) ⟨rfl, by decide, _, rfl, rfl⟩ rfl rfl (Nat.le_of_ble_eq_true rfl) (y_X8_speed1 w) (go_i2l (eD DX8_isCovered 67 rfl) (show eI (w 38 141) from by omega) (go_iload (eD DX8_isCovered 68 rfl) rfl (go_i2l (eD DX8_isCovered 69 rfl) (by omega) (go_lmul (eD DX8_isCovered 70 rfl) (go_lsub (eD DX8_isCovered 71 rfl) (go_lmul (eD DX8_isCovered 72 rfl) (?_))))))))))))))))
      by_cases h3 : (2 * ((x * q) - ((w 38 141) * p))) < mx
      · refine go_lleF (tgt := 155) (eD DX8_isCovered 73 rfl) (eD DX8_isCovered 74 rfl) rfl (by omega) (show eJ (2 * ((x * q) - ((w 38 141) * p))) from by omega) (Int.not_le.mpr h3) ?_
        refine go_lload_n (eD DX8_isCovered 75 rfl) rfl rfl (go_ldc2 (n := 2) (eD DX8_isCovered 76 rfl) (eMem 6 121 rfl rfl) (go_iload (eD DX8_isCovered 77 rfl) rfl (go_i2l (eD DX8_isCovered 78 rfl) (by omega) (go_lconst (n := 1) (eD DX8_isCovered 79 rfl) rfl (go_ladd (eD DX8_isCovered 80 rfl) (go_iload (eD DX8_isCovered 81 rfl) rfl (go_i2l (eD DX8_isCovered 82 rfl) (by omega) (go_lmul (eD DX8_isCovered 83 rfl) (go_aload_n (eD DX8_isCovered 84 rfl) rfl rfl (go_iconst (eD DX8_isCovered 85 rfl) (go_callV (ci := 8) [(0, 3)] (eD DX8_isCovered 86 rfl) ⟨eMem 6 97 rfl rfl, sX8_speedOf⟩ ⟨Nat.le_of_ble_eq_true rfl, Nat.le_of_ble_eq_true rfl⟩ (by decide) ⟨rfl, by decide, _, rfl, rfl⟩ rfl rfl (Nat.le_of_ble_eq_true rfl) (y_X8_speed3 w) (go_i2l (eD DX8_isCovered 87 rfl) (show eI (w 38 143) from by omega) (go_iload (eD DX8_isCovered 88 rfl) rfl (go_i2l (eD DX8_isCovered 89 rfl) (by omega) (go_lmul (eD DX8_isCovered 90 rfl) (go_ladd (eD DX8_isCovered 91 rfl) (go_lmul (eD DX8_isCovered 92 rfl) (?_))))))))))))))))))
        by_cases h4 : mx < (2 * (((x + 1) * q) + ((w 38 143) * p)))
        · refine go_lgeF (tgt := 155) (eD DX8_isCovered 93 rfl) (eD DX8_isCovered 94 rfl) rfl (by omega) (show eJ (2 * (((x + 1) * q) + ((w 38 143) * p))) from by omega) (Int.not_le.mpr h4) ?_
          rw [(k3 h1 h2 h3 h4).1, (k3 h1 h2 h3 h4).2]
          exact go_iconst (eD DX8_isCovered 95 rfl) (go_zret (eD DX8_isCovered 96 rfl) rfl (by decide))
        · refine go_lgeT (tgt := 155) (eD DX8_isCovered 93 rfl) (eD DX8_isCovered 94 rfl) rfl (by omega) (show eJ (2 * (((x + 1) * q) + ((w 38 143) * p))) from by omega) (Int.not_lt.mp h4) ?_
          exact go_iinc (eD DX8_isCovered 97 rfl) rfl (by decide) (go_goto (tgt := 74) (eD DX8_isCovered 98 rfl) rfl (Go.pick [1, 2, 3, 4, 5, 6, 0] rfl (k4 h1 h2 h3 h4)))
      · refine go_lleT (tgt := 155) (eD DX8_isCovered 73 rfl) (eD DX8_isCovered 74 rfl) rfl (by omega) (show eJ (2 * ((x * q) - ((w 38 141) * p))) from by omega) (Int.not_lt.mp h3) ?_
        exact go_iinc (eD DX8_isCovered 97 rfl) rfl (by decide) (go_goto (tgt := 74) (eD DX8_isCovered 98 rfl) rfl (Go.pick [1, 2, 3, 4, 5, 6, 0] rfl (k5 h1 h2 h3)))
