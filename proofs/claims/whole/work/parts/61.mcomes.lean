theorem e_mulb {a b A B : Int} (ha : -A ≤ a ∧ a ≤ A) (hb : 0 ≤ b ∧ b ≤ B) (hA : 0 ≤ A) : -(A * B) ≤ a * b ∧ a * b ≤ A * B := by
  have h1 : a * b ≤ A * b := Int.mul_le_mul_of_nonneg_right ha.2 hb.1
  have h2 : -A * b ≤ a * b := Int.mul_le_mul_of_nonneg_right ha.1 hb.1
  have h3 : A * b ≤ A * B := Int.mul_le_mul_of_nonneg_left hb.2 hA
  rw [Int.neg_mul] at h2
  omega
theorem y_X8_speed0 (w : eW) : Cal mX8_speedOf [eR 33, (0, 0)] w (some (0, w 38 140)) w := zX8_speedOf w 0 (by decide) (by decide)
theorem y_X8_speed1 (w : eW) : Cal mX8_speedOf [eR 33, (0, 1)] w (some (0, w 38 141)) w := zX8_speedOf w 1 (by decide) (by decide)
theorem y_X8_speed2 (w : eW) : Cal mX8_speedOf [eR 33, (0, 2)] w (some (0, w 38 142)) w := zX8_speedOf w 2 (by decide) (by decide)
theorem y_X8_speed3 (w : eW) : Cal mX8_speedOf [eR 33, (0, 3)] w (some (0, w 38 143)) w := zX8_speedOf w 3 (by decide) (by decide)
set_option maxHeartbeats 4000000 in
set_option maxRecDepth 20000 in
theorem tX8_comes45_0 {r : Option eV} {w9 : eW} (w : eW) (n v b m : Int) (k1 : Go mX8_comes 4 [(0, eR 33), (1, eR 45), (2, eR 46), (3, eR 47), (4, (0, n)), (5, (0, v)), (6, (0, b)), (7, (0, m)), (8, (0, n))] [] w r w9) : Go mX8_comes 0 [(0, eR 33), (1, eR 45), (2, eR 46), (3, eR 47), (4, (0, n)), (5, (0, v)), (6, (0, b)), (7, (0, m))] [] w r w9 := by
  exact go_iload (eD DX8_comes 0 rfl) rfl (go_istore (eD DX8_comes 1 rfl) (by decide) (Go.pick [1, 2, 3, 4, 5, 6, 7, 8, 0] rfl (k1)))
set_option maxHeartbeats 4000000 in
set_option maxRecDepth 20000 in
theorem tX8_comes45_4 {r : Option eV} {w9 : eW} (w : eW) (n v b m k : Int) (hv : eI v) (hn : 0 ≤ n ∧ n ≤ 29) (hk : 0 ≤ k ∧ k ≤ n) (hl : 0 < k → eI (w 45 (k - 1))) (k1 : 0 < k → (w 45 (k - 1)) < v → Go mX8_comes 26 [(0, eR 33), (1, eR 45), (2, eR 46), (3, eR 47), (4, (0, n)), (5, (0, v)), (6, (0, b)), (7, (0, m)), (8, (0, k))] [] w r w9) (k2 : 0 < k → ¬ ((w 45 (k - 1)) < v) → Go mX8_comes 4 [(0, eR 33), (1, eR 45), (2, eR 46), (3, eR 47), (4, (0, n)), (5, (0, v)), (6, (0, b)), (7, (0, m)), (8, (0, k + (-1)))] [] w r w9) (k3 : ¬ (0 < k) → Go mX8_comes 26 [(0, eR 33), (1, eR 45), (2, eR 46), (3, eR 47), (4, (0, n)), (5, (0, v)), (6, (0, b)), (7, (0, m)), (8, (0, k))] [] w r w9) : Go mX8_comes 4 [(0, eR 33), (1, eR 45), (2, eR 46), (3, eR 47), (4, (0, n)), (5, (0, v)), (6, (0, b)), (7, (0, m)), (8, (0, k))] [] w r w9 := by
  refine go_iload (eD DX8_comes 2 rfl) rfl (?_)
  by_cases h1 : 0 < k
  · refine go_if_leF (tgt := 26) (eD DX8_comes 3 rfl) rfl (by omega) (Int.not_le.mpr h1) ?_
    refine go_aload_n (eD DX8_comes 4 rfl) rfl rfl (go_iload (eD DX8_comes 5 rfl) rfl (go_iconst (eD DX8_comes 6 rfl) (go_isub (eD DX8_comes 7 rfl) (go_iald (n := 30) (eD DX8_comes 8 rfl) (by decide) rfl (by omega) (go_iload (eD DX8_comes 9 rfl) rfl (?_))))))
    by_cases h2 : (w 45 (k - 1)) < v
    · refine go_icmp_ltT (tgt := 26) (eD DX8_comes 10 rfl) rfl (show eI (w 45 (k - 1)) from by omega) (by omega) h2 ?_
      exact Go.pick [0, 1, 2, 3, 4, 5, 6, 7, 8] rfl (k1 h1 h2)
    · refine go_icmp_ltF (tgt := 26) (eD DX8_comes 10 rfl) rfl (show eI (w 45 (k - 1)) from by omega) (by omega) h2 ?_
      exact go_iinc (eD DX8_comes 11 rfl) rfl (by decide) (go_goto (tgt := 4) (eD DX8_comes 12 rfl) rfl (Go.pick [1, 2, 3, 4, 5, 6, 7, 8, 0] rfl (k2 h1 h2)))
  · refine go_if_leT (tgt := 26) (eD DX8_comes 3 rfl) rfl (by omega) (Int.not_lt.mp h1) ?_
    exact Go.pick [0, 1, 2, 3, 4, 5, 6, 7, 8] rfl (k3 h1)
set_option maxHeartbeats 4000000 in
set_option maxRecDepth 20000 in
theorem tX8_comes45_26 {r : Option eV} {w9 : eW} (w : eW) (n v b m k : Int) (hv : eI v) (hn : 0 ≤ n ∧ n ≤ 29) (hk : 0 ≤ k ∧ k ≤ n) (hl : k < n → eI (w 45 k)) (k1 : k < n → (w 45 k) = v → r = some (0, n) ∧ w9 = w) (k2 : k < n → ¬ ((w 45 k) = v) → Go mX8_comes 49 [(0, eR 33), (1, eR 45), (2, eR 46), (3, eR 47), (4, (0, n)), (5, (0, v)), (6, (0, b)), (7, (0, m)), (8, (0, k)), (9, (0, n))] [] w r w9) (k3 : ¬ (k < n) → Go mX8_comes 49 [(0, eR 33), (1, eR 45), (2, eR 46), (3, eR 47), (4, (0, n)), (5, (0, v)), (6, (0, b)), (7, (0, m)), (8, (0, k)), (9, (0, n))] [] w r w9) : Go mX8_comes 26 [(0, eR 33), (1, eR 45), (2, eR 46), (3, eR 47), (4, (0, n)), (5, (0, v)), (6, (0, b)), (7, (0, m)), (8, (0, k))] [] w r w9 := by
  refine go_iload (eD DX8_comes 13 rfl) rfl (go_iload (eD DX8_comes 14 rfl) rfl (?_))
  by_cases h1 : k < n
  · refine go_icmp_geF (tgt := 45) (eD DX8_comes 15 rfl) rfl (by omega) (by omega) (Int.not_le.mpr h1) ?_
    refine go_aload_n (eD DX8_comes 16 rfl) rfl rfl (go_iload (eD DX8_comes 17 rfl) rfl (go_iald (n := 30) (eD DX8_comes 18 rfl) (by decide) rfl (by omega) (go_iload (eD DX8_comes 19 rfl) rfl (?_))))
    by_cases h2 : (w 45 k) = v
    · refine go_icmp_neF (tgt := 45) (eD DX8_comes 20 rfl) rfl (show eI (w 45 k) from by omega) (by omega) (not_not_intro h2) ?_
      rw [(k1 h1 h2).1, (k1 h1 h2).2]
      exact go_iload (eD DX8_comes 21 rfl) rfl (go_iret (eD DX8_comes 22 rfl) rfl)
    · refine go_icmp_neT (tgt := 45) (eD DX8_comes 20 rfl) rfl (show eI (w 45 k) from by omega) (by omega) h2 ?_
      exact go_iload (eD DX8_comes 23 rfl) rfl (go_istore (eD DX8_comes 24 rfl) (by decide) (Go.pick [1, 2, 3, 4, 5, 6, 7, 8, 9, 0] rfl (k2 h1 h2)))
  · refine go_icmp_geT (tgt := 45) (eD DX8_comes 15 rfl) rfl (by omega) (by omega) (Int.not_lt.mp h1) ?_
    exact go_iload (eD DX8_comes 23 rfl) rfl (go_istore (eD DX8_comes 24 rfl) (by decide) (Go.pick [1, 2, 3, 4, 5, 6, 7, 8, 9, 0] rfl (k3 h1)))
set_option maxHeartbeats 4000000 in
set_option maxRecDepth 20000 in
theorem tX8_comes45_49 {r : Option eV} {w9 : eW} (w : eW) (n v b m k i : Int) (hn : 0 ≤ n ∧ n ≤ 29) (hk : 0 ≤ k ∧ k ≤ i) (hi : i ≤ n) (k1 : k < i → Go mX8_comes 49 [(0, eR 33), (1, eR 45), (2, eR 46), (3, eR 47), (4, (0, n)), (5, (0, v)), (6, (0, b)), (7, (0, m)), (8, (0, k)), (9, (0, i + (-1)))] [] (eU (eU (eU w 45 i (w 45 (i - 1))) 46 i (w 46 (i - 1))) 47 i (w 47 (i - 1))) r w9) (k2 : ¬ (k < i) → r = some (0, n + 1) ∧ w9 = (eU (eU (eU w 45 k v) 46 k b) 47 k m)) : Go mX8_comes 49 [(0, eR 33), (1, eR 45), (2, eR 46), (3, eR 47), (4, (0, n)), (5, (0, v)), (6, (0, b)), (7, (0, m)), (8, (0, k)), (9, (0, i))] [] w r w9 := by
  refine go_iload (eD DX8_comes 25 rfl) rfl (go_iload (eD DX8_comes 26 rfl) rfl (?_))
  by_cases h1 : k < i
  · refine go_icmp_leF (tgt := 92) (eD DX8_comes 27 rfl) rfl (by omega) (by omega) (Int.not_le.mpr h1) ?_
    exact go_aload_n (eD DX8_comes 28 rfl) rfl rfl (go_iload (eD DX8_comes 29 rfl) rfl (go_aload_n (eD DX8_comes 30 rfl) rfl rfl (go_iload (eD DX8_comes 31 rfl) rfl (go_iconst (eD DX8_comes 32 rfl) (go_isub (eD DX8_comes 33 rfl) (go_iald (n := 30) (eD DX8_comes 34 rfl) (by decide) rfl (by omega) (go_iast (n := 30) (eD DX8_comes 35 rfl) (by decide) rfl (by omega) (go_aload_n (eD DX8_comes 36 rfl) rfl rfl (go_iload (eD DX8_comes 37 rfl) rfl (go_aload_n (eD DX8_comes 38 rfl) rfl rfl (go_iload (eD DX8_comes 39 rfl) rfl (go_iconst (eD DX8_comes 40 rfl) (go_isub (eD DX8_comes 41 rfl) (go_iald (n := 30) (eD DX8_comes 42 rfl) (by decide) rfl (by omega) (go_iast (n := 30) (eD DX8_comes 43 rfl) (by decide) rfl (by omega) (go_aload_n (eD DX8_comes 44 rfl) rfl rfl (go_iload (eD DX8_comes 45 rfl) rfl (go_aload_n (eD DX8_comes 46 rfl) rfl rfl (go_iload (eD DX8_comes 47 rfl) rfl (go_iconst (eD DX8_comes 48 rfl) (go_isub (eD DX8_comes 49 rfl) (go_iald (n := 30) (eD DX8_comes 50 rfl) (by decide) rfl (by omega) (go_iast (n := 30) (eD DX8_comes 51 rfl) (by decide) rfl (by omega) (go_iinc (eD DX8_comes 52 rfl) rfl (by decide) (go_goto (tgt := 49) (eD DX8_comes 53 rfl) rfl (Go.pick [1, 2, 3, 4, 5, 6, 7, 8, 9, 0] rfl (k1 h1)))))))))))))))))))))))))))
  · refine go_icmp_leT (tgt := 92) (eD DX8_comes 27 rfl) rfl (by omega) (by omega) (Int.not_lt.mp h1) ?_
    rw [(k2 h1).1, (k2 h1).2]
    exact go_aload_n (eD DX8_comes 54 rfl) rfl rfl (go_iload (eD DX8_comes 55 rfl) rfl (go_iload (eD DX8_comes 56 rfl) rfl (go_iast (n := 30) (eD DX8_comes 57 rfl) (by decide) rfl (by omega) (go_aload_n (eD DX8_comes 58 rfl) rfl rfl (go_iload (eD DX8_comes 59 rfl) rfl (go_iload (eD DX8_comes 60 rfl) rfl (go_iast (n := 30) (eD DX8_comes 61 rfl) (by decide) rfl (by omega) (go_aload_n (eD DX8_comes 62 rfl) rfl rfl (go_iload (eD DX8_comes 63 rfl) rfl (go_iload (eD DX8_comes 64 rfl) rfl (go_iast (n := 30) (eD DX8_comes 65 rfl) (by decide) rfl (by omega) (go_iload (eD DX8_comes 66 rfl) rfl (go_iconst (eD DX8_comes 67 rfl) (go_iadd (eD DX8_comes 68 rfl) (go_iret (eD DX8_comes 69 rfl) rfl)))))))))))))))
set_option maxHeartbeats 4000000 in
set_option maxRecDepth 20000 in
theorem tX8_comes48_0 {r : Option eV} {w9 : eW} (w : eW) (n v b m : Int) (k1 : Go mX8_comes 4 [(0, eR 33), (1, eR 48), (2, eR 49), (3, eR 50), (4, (0, n)), (5, (0, v)), (6, (0, b)), (7, (0, m)), (8, (0, n))] [] w r w9) : Go mX8_comes 0 [(0, eR 33), (1, eR 48), (2, eR 49), (3, eR 50), (4, (0, n)), (5, (0, v)), (6, (0, b)), (7, (0, m))] [] w r w9 := by
  exact go_iload (eD DX8_comes 0 rfl) rfl (go_istore (eD DX8_comes 1 rfl) (by decide) (Go.pick [1, 2, 3, 4, 5, 6, 7, 8, 0] rfl (k1)))
set_option maxHeartbeats 4000000 in
set_option maxRecDepth 20000 in
theorem tX8_comes48_4 {r : Option eV} {w9 : eW} (w : eW) (n v b m k : Int) (hv : eI v) (hn : 0 ≤ n ∧ n ≤ 29) (hk : 0 ≤ k ∧ k ≤ n) (hl : 0 < k → eI (w 48 (k - 1))) (k1 : 0 < k → (w 48 (k - 1)) < v → Go mX8_comes 26 [(0, eR 33), (1, eR 48), (2, eR 49), (3, eR 50), (4, (0, n)), (5, (0, v)), (6, (0, b)), (7, (0, m)), (8, (0, k))] [] w r w9) (k2 : 0 < k → ¬ ((w 48 (k - 1)) < v) → Go mX8_comes 4 [(0, eR 33), (1, eR 48), (2, eR 49), (3, eR 50), (4, (0, n)), (5, (0, v)), (6, (0, b)), (7, (0, m)), (8, (0, k + (-1)))] [] w r w9) (k3 : ¬ (0 < k) → Go mX8_comes 26 [(0, eR 33), (1, eR 48), (2, eR 49), (3, eR 50), (4, (0, n)), (5, (0, v)), (6, (0, b)), (7, (0, m)), (8, (0, k))] [] w r w9) : Go mX8_comes 4 [(0, eR 33), (1, eR 48), (2, eR 49), (3, eR 50), (4, (0, n)), (5, (0, v)), (6, (0, b)), (7, (0, m)), (8, (0, k))] [] w r w9 := by
  refine go_iload (eD DX8_comes 2 rfl) rfl (?_)
  by_cases h1 : 0 < k
  · refine go_if_leF (tgt := 26) (eD DX8_comes 3 rfl) rfl (by omega) (Int.not_le.mpr h1) ?_
    refine go_aload_n (eD DX8_comes 4 rfl) rfl rfl (go_iload (eD DX8_comes 5 rfl) rfl (go_iconst (eD DX8_comes 6 rfl) (go_isub (eD DX8_comes 7 rfl) (go_iald (n := 30) (eD DX8_comes 8 rfl) (by decide) rfl (by omega) (go_iload (eD DX8_comes 9 rfl) rfl (?_))))))
    by_cases h2 : (w 48 (k - 1)) < v
    · refine go_icmp_ltT (tgt := 26) (eD DX8_comes 10 rfl) rfl (show eI (w 48 (k - 1)) from by omega) (by omega) h2 ?_
      exact Go.pick [0, 1, 2, 3, 4, 5, 6, 7, 8] rfl (k1 h1 h2)
    · refine go_icmp_ltF (tgt := 26) (eD DX8_comes 10 rfl) rfl (show eI (w 48 (k - 1)) from by omega) (by omega) h2 ?_
      exact go_iinc (eD DX8_comes 11 rfl) rfl (by decide) (go_goto (tgt := 4) (eD DX8_comes 12 rfl) rfl (Go.pick [1, 2, 3, 4, 5, 6, 7, 8, 0] rfl (k2 h1 h2)))
  · refine go_if_leT (tgt := 26) (eD DX8_comes 3 rfl) rfl (by omega) (Int.not_lt.mp h1) ?_
    exact Go.pick [0, 1, 2, 3, 4, 5, 6, 7, 8] rfl (k3 h1)
set_option maxHeartbeats 4000000 in
set_option maxRecDepth 20000 in
theorem tX8_comes48_26 {r : Option eV} {w9 : eW} (w : eW) (n v b m k : Int) (hv : eI v) (hn : 0 ≤ n ∧ n ≤ 29) (hk : 0 ≤ k ∧ k ≤ n) (hl : k < n → eI (w 48 k)) (k1 : k < n → (w 48 k) = v → r = some (0, n) ∧ w9 = w) (k2 : k < n → ¬ ((w 48 k) = v) → Go mX8_comes 49 [(0, eR 33), (1, eR 48), (2, eR 49), (3, eR 50), (4, (0, n)), (5, (0, v)), (6, (0, b)), (7, (0, m)), (8, (0, k)), (9, (0, n))] [] w r w9) (k3 : ¬ (k < n) → Go mX8_comes 49 [(0, eR 33), (1, eR 48), (2, eR 49), (3, eR 50), (4, (0, n)), (5, (0, v)), (6, (0, b)), (7, (0, m)), (8, (0, k)), (9, (0, n))] [] w r w9) : Go mX8_comes 26 [(0, eR 33), (1, eR 48), (2, eR 49), (3, eR 50), (4, (0, n)), (5, (0, v)), (6, (0, b)), (7, (0, m)), (8, (0, k))] [] w r w9 := by
  refine go_iload (eD DX8_comes 13 rfl) rfl (go_iload (eD DX8_comes 14 rfl) rfl (?_))
  by_cases h1 : k < n
  · refine go_icmp_geF (tgt := 45) (eD DX8_comes 15 rfl) rfl (by omega) (by omega) (Int.not_le.mpr h1) ?_
    refine go_aload_n (eD DX8_comes 16 rfl) rfl rfl (go_iload (eD DX8_comes 17 rfl) rfl (go_iald (n := 30) (eD DX8_comes 18 rfl) (by decide) rfl (by omega) (go_iload (eD DX8_comes 19 rfl) rfl (?_))))
    by_cases h2 : (w 48 k) = v
    · refine go_icmp_neF (tgt := 45) (eD DX8_comes 20 rfl) rfl (show eI (w 48 k) from by omega) (by omega) (not_not_intro h2) ?_
      rw [(k1 h1 h2).1, (k1 h1 h2).2]
      exact go_iload (eD DX8_comes 21 rfl) rfl (go_iret (eD DX8_comes 22 rfl) rfl)
    · refine go_icmp_neT (tgt := 45) (eD DX8_comes 20 rfl) rfl (show eI (w 48 k) from by omega) (by omega) h2 ?_
      exact go_iload (eD DX8_comes 23 rfl) rfl (go_istore (eD DX8_comes 24 rfl) (by decide) (Go.pick [1, 2, 3, 4, 5, 6, 7, 8, 9, 0] rfl (k2 h1 h2)))
  · refine go_icmp_geT (tgt := 45) (eD DX8_comes 15 rfl) rfl (by omega) (by omega) (Int.not_lt.mp h1) ?_
    exact go_iload (eD DX8_comes 23 rfl) rfl (go_istore (eD DX8_comes 24 rfl) (by decide) (Go.pick [1, 2, 3, 4, 5, 6, 7, 8, 9, 0] rfl (k3 h1)))
set_option maxHeartbeats 4000000 in
set_option maxRecDepth 20000 in
theorem tX8_comes48_49 {r : Option eV} {w9 : eW} (w : eW) (n v b m k i : Int) (hn : 0 ≤ n ∧ n ≤ 29) (hk : 0 ≤ k ∧ k ≤ i) (hi : i ≤ n) (k1 : k < i → Go mX8_comes 49 [(0, eR 33), (1, eR 48), (2, eR 49), (3, eR 50), (4, (0, n)), (5, (0, v)), (6, (0, b)), (7, (0, m)), (8, (0, k)), (9, (0, i + (-1)))] [] (eU (eU (eU w 48 i (w 48 (i - 1))) 49 i (w 49 (i - 1))) 50 i (w 50 (i - 1))) r w9) (k2 : ¬ (k < i) → r = some (0, n + 1) ∧ w9 = (eU (eU (eU w 48 k v) 49 k b) 50 k m)) : Go mX8_comes 49 [(0, eR 33), (1, eR 48), (2, eR 49), (3, eR 50), (4, (0, n)), (5, (0, v)), (6, (0, b)), (7, (0, m)), (8, (0, k)), (9, (0, i))] [] w r w9 := by
  refine go_iload (eD DX8_comes 25 rfl) rfl (go_iload (eD DX8_comes 26 rfl) rfl (?_))
  by_cases h1 : k < i
  · refine go_icmp_leF (tgt := 92) (eD DX8_comes 27 rfl) rfl (by omega) (by omega) (Int.not_le.mpr h1) ?_
    exact go_aload_n (eD DX8_comes 28 rfl) rfl rfl (go_iload (eD DX8_comes 29 rfl) rfl (go_aload_n (eD DX8_comes 30 rfl) rfl rfl (go_iload (eD DX8_comes 31 rfl) rfl (go_iconst (eD DX8_comes 32 rfl) (go_isub (eD DX8_comes 33 rfl) (go_iald (n := 30) (eD DX8_comes 34 rfl) (by decide) rfl (by omega) (go_iast (n := 30) (eD DX8_comes 35 rfl) (by decide) rfl (by omega) (go_aload_n (eD DX8_comes 36 rfl) rfl rfl (go_iload (eD DX8_comes 37 rfl) rfl (go_aload_n (eD DX8_comes 38 rfl) rfl rfl (go_iload (eD DX8_comes 39 rfl) rfl (go_iconst (eD DX8_comes 40 rfl) (go_isub (eD DX8_comes 41 rfl) (go_iald (n := 30) (eD DX8_comes 42 rfl) (by decide) rfl (by omega) (go_iast (n := 30) (eD DX8_comes 43 rfl) (by decide) rfl (by omega) (go_aload_n (eD DX8_comes 44 rfl) rfl rfl (go_iload (eD DX8_comes 45 rfl) rfl (go_aload_n (eD DX8_comes 46 rfl) rfl rfl (go_iload (eD DX8_comes 47 rfl) rfl (go_iconst (eD DX8_comes 48 rfl) (go_isub (eD DX8_comes 49 rfl) (go_iald (n := 30) (eD DX8_comes 50 rfl) (by decide) rfl (by omega) (go_iast (n := 30) (eD DX8_comes 51 rfl) (by decide) rfl (by omega) (go_iinc (eD DX8_comes 52 rfl) rfl (by decide) (go_goto (tgt := 49) (eD DX8_comes 53 rfl) rfl (Go.pick [1, 2, 3, 4, 5, 6, 7, 8, 9, 0] rfl (k1 h1)))))))))))))))))))))))))))
  · refine go_icmp_leT (tgt := 92) (eD DX8_comes 27 rfl) rfl (by omega) (by omega) (Int.not_lt.mp h1) ?_
    rw [(k2 h1).1, (k2 h1).2]
    exact go_aload_n (eD DX8_comes 54 rfl) rfl rfl (go_iload (eD DX8_comes 55 rfl) rfl (go_iload (eD DX8_comes 56 rfl) rfl (go_iast (n := 30) (eD DX8_comes 57 rfl) (by decide) rfl (by omega) (go_aload_n (eD DX8_comes 58 rfl) rfl rfl (go_iload (eD DX8_comes 59 rfl) rfl (go_iload (eD DX8_comes 60 rfl) rfl (go_iast (n := 30) (eD DX8_comes 61 rfl) (by decide) rfl (by omega) (go_aload_n (eD DX8_comes 62 rfl) rfl rfl (go_iload (eD DX8_comes 63 rfl) rfl (go_iload (eD DX8_comes 64 rfl) rfl (go_iast (n := 30) (eD DX8_comes 65 rfl) (by decide) rfl (by omega) (go_iload (eD DX8_comes 66 rfl) rfl (go_iconst (eD DX8_comes 67 rfl) (go_iadd (eD DX8_comes 68 rfl) (go_iret (eD DX8_comes 69 rfl) rfl)))))))))))))))
