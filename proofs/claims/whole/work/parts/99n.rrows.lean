/-! the reader: rows -/
def rX3_signAt (w : eW) (p : Int) : Int := if p < 0 then (-1) else (if p < (w 8 2) then (if p < 400 then (eAnd (w 1 p) 255) else (-1)) else (-1))
set_option maxRecDepth 20000 in
theorem zX3_signAt (w : eW) (p : Int) (hp : eI p) (hn : eI (w 8 2)) : Cal mX3_signAt [eR 8, (0, p)] w (some (0, rX3_signAt w p)) w := by
  unfold rX3_signAt
  refine Cal.of (by decide +kernel) (Nat.le_of_ble_eq_true rfl) ?_
  show Go _ 0 [(0, eR 8), (1, (0, p))] [] _ _ _
  refine go_iload_n (eD DX3_signAt 0 rfl) rfl rfl (?_)
  by_cases h1 : p < 0
  · refine go_if_ltT (tgt := 34) (eD DX3_signAt 1 rfl) rfl (by omega) h1 ?_
    simp only [if_pos h1]
    exact go_iconst (eD DX3_signAt 18 rfl) (go_iret (eD DX3_signAt 19 rfl) rfl)
  · refine go_if_ltF (tgt := 34) (eD DX3_signAt 1 rfl) rfl (by omega) h1 ?_
    refine go_iload_n (eD DX3_signAt 2 rfl) rfl rfl (go_aload_n (eD DX3_signAt 3 rfl) rfl rfl (go_getI (kz := 2) (eD DX3_signAt 4 rfl) fX3_18 (by decide) rfl rfl rfl (?_)))
    by_cases h2 : p < (w 8 2)
    · refine go_icmp_geF (tgt := 34) (eD DX3_signAt 5 rfl) rfl (by omega) (show eI (w 8 2) from by omega) (Int.not_le.mpr h2) ?_
      refine go_iload_n (eD DX3_signAt 6 rfl) rfl rfl (go_aload_n (eD DX3_signAt 7 rfl) rfl rfl (go_getR (t := 1) (eD DX3_signAt 8 rfl) fX3_41 (by decide) rfl ⟨rfl, rfl⟩ (go_alen (n := 400) (eD DX3_signAt 9 rfl) (by decide) rfl (by decide) (?_))))
      by_cases h3 : p < 400
      · refine go_icmp_geF (tgt := 34) (eD DX3_signAt 10 rfl) rfl (by omega) (by decide) (Int.not_le.mpr h3) ?_
        simp only [if_neg h1, if_pos h2, if_pos h3]
        exact go_aload_n (eD DX3_signAt 11 rfl) rfl rfl (go_getR (t := 1) (eD DX3_signAt 12 rfl) fX3_41 (by decide) rfl ⟨rfl, rfl⟩ (go_iload_n (eD DX3_signAt 13 rfl) rfl rfl (go_bald (n := 400) (eD DX3_signAt 14 rfl) (by decide) rfl (by omega) (go_sipush (eD DX3_signAt 15 rfl) (by decide) (go_iand (eD DX3_signAt 16 rfl) (go_goto (tgt := 35) (eD DX3_signAt 17 rfl) rfl (go_iret (eD DX3_signAt 19 rfl) rfl)))))))
      · refine go_icmp_geT (tgt := 34) (eD DX3_signAt 10 rfl) rfl (by omega) (by decide) (Int.not_lt.mp h3) ?_
        simp only [if_neg h1, if_pos h2, if_neg h3]
        exact go_iconst (eD DX3_signAt 18 rfl) (go_iret (eD DX3_signAt 19 rfl) rfl)
    · refine go_icmp_geT (tgt := 34) (eD DX3_signAt 5 rfl) rfl (by omega) (show eI (w 8 2) from by omega) (Int.not_lt.mp h2) ?_
      simp only [if_neg h1, if_neg h2]
      exact go_iconst (eD DX3_signAt 18 rfl) (go_iret (eD DX3_signAt 19 rfl) rfl)
def sgC (w : eW) (p : Int) : Int := if 0 ≤ p ∧ p < w 8 2 ∧ p < 400 then w 1 p % 256 else -1
theorem sgC_b (w : eW) (p : Int) : -1 ≤ sgC w p ∧ sgC w p ≤ 255 := by
  unfold sgC
  split <;> omega
theorem y_signAt (w : eW) (p : Int) (hp : eI p) (hn : eI (w 8 2)) : Cal mX3_signAt [eR 8, (0, p)] w (some (0, sgC w p)) w := by
  refine Cal.as (zX3_signAt w p hp hn) ?_ rfl
  unfold rX3_signAt sgC
  congr 2
  rw [eAnd_255]
  (repeat' split) <;> first | rfl | (exfalso; omega)
def krF (c : Int) : Int := if 97 ≤ c ∧ c ≤ 122 then 1 else if 48 ≤ c ∧ c ≤ 57 then 2 else -1
def rX3_kindOfRun (w : eW) (c : Int) : Int := if c < 97 then (if c < 48 then (-1) else (if 57 < c then (-1) else 2)) else (if 122 < c then (if c < 48 then (-1) else (if 57 < c then (-1) else 2)) else 1)
set_option maxRecDepth 20000 in
theorem zX3_kindOfRun (w : eW) (c : Int) (hc : eI c) : Cal mX3_kindOfRun [(0, c)] w (some (0, rX3_kindOfRun w c)) w := by
  unfold rX3_kindOfRun
  refine Cal.of (by decide +kernel) (Nat.le_of_ble_eq_true rfl) ?_
  show Go _ 0 [(0, (0, c))] [] _ _ _
  refine go_iload_n (eD DX3_kindOfRun 0 rfl) rfl rfl (go_bipush (eD DX3_kindOfRun 1 rfl) (by decide) (?_))
  by_cases h1 : c < 97
  · refine go_icmp_ltT (tgt := 14) (eD DX3_kindOfRun 2 rfl) rfl (by omega) (by decide) h1 ?_
    refine go_iload_n (eD DX3_kindOfRun 8 rfl) rfl rfl (go_bipush (eD DX3_kindOfRun 9 rfl) (by decide) (?_))
    by_cases h2 : c < 48
    · refine go_icmp_ltT (tgt := 30) (eD DX3_kindOfRun 10 rfl) rfl (by omega) (by decide) h2 ?_
      simp only [if_pos h1, if_pos h2]
      exact go_iconst (eD DX3_kindOfRun 16 rfl) (go_iret (eD DX3_kindOfRun 17 rfl) rfl)
    · refine go_icmp_ltF (tgt := 30) (eD DX3_kindOfRun 10 rfl) rfl (by omega) (by decide) h2 ?_
      refine go_iload_n (eD DX3_kindOfRun 11 rfl) rfl rfl (go_bipush (eD DX3_kindOfRun 12 rfl) (by decide) (?_))
      by_cases h3 : 57 < c
      · refine go_icmp_gtT (tgt := 30) (eD DX3_kindOfRun 13 rfl) rfl (by omega) (by decide) h3 ?_
        simp only [if_pos h1, if_neg h2, if_pos h3]
        exact go_iconst (eD DX3_kindOfRun 16 rfl) (go_iret (eD DX3_kindOfRun 17 rfl) rfl)
      · refine go_icmp_gtF (tgt := 30) (eD DX3_kindOfRun 13 rfl) rfl (by omega) (by decide) h3 ?_
        simp only [if_pos h1, if_neg h2, if_neg h3]
        exact go_iconst (eD DX3_kindOfRun 14 rfl) (go_goto (tgt := 31) (eD DX3_kindOfRun 15 rfl) rfl (go_iret (eD DX3_kindOfRun 17 rfl) rfl))
  · refine go_icmp_ltF (tgt := 14) (eD DX3_kindOfRun 2 rfl) rfl (by omega) (by decide) h1 ?_
    refine go_iload_n (eD DX3_kindOfRun 3 rfl) rfl rfl (go_bipush (eD DX3_kindOfRun 4 rfl) (by decide) (?_))
    by_cases h2 : 122 < c
    · refine go_icmp_gtT (tgt := 14) (eD DX3_kindOfRun 5 rfl) rfl (by omega) (by decide) h2 ?_
      refine go_iload_n (eD DX3_kindOfRun 8 rfl) rfl rfl (go_bipush (eD DX3_kindOfRun 9 rfl) (by decide) (?_))
      by_cases h3 : c < 48
      · refine go_icmp_ltT (tgt := 30) (eD DX3_kindOfRun 10 rfl) rfl (by omega) (by decide) h3 ?_
        simp only [if_neg h1, if_pos h2, if_pos h3]
        exact go_iconst (eD DX3_kindOfRun 16 rfl) (go_iret (eD DX3_kindOfRun 17 rfl) rfl)
      · refine go_icmp_ltF (tgt := 30) (eD DX3_kindOfRun 10 rfl) rfl (by omega) (by decide) h3 ?_
        refine go_iload_n (eD DX3_kindOfRun 11 rfl) rfl rfl (go_bipush (eD DX3_kindOfRun 12 rfl) (by decide) (?_))
        by_cases h4 : 57 < c
        · refine go_icmp_gtT (tgt := 30) (eD DX3_kindOfRun 13 rfl) rfl (by omega) (by decide) h4 ?_
          simp only [if_neg h1, if_pos h2, if_neg h3, if_pos h4]
          exact go_iconst (eD DX3_kindOfRun 16 rfl) (go_iret (eD DX3_kindOfRun 17 rfl) rfl)
        · refine go_icmp_gtF (tgt := 30) (eD DX3_kindOfRun 13 rfl) rfl (by omega) (by decide) h4 ?_
          simp only [if_neg h1, if_pos h2, if_neg h3, if_neg h4]
          exact go_iconst (eD DX3_kindOfRun 14 rfl) (go_goto (tgt := 31) (eD DX3_kindOfRun 15 rfl) rfl (go_iret (eD DX3_kindOfRun 17 rfl) rfl))
    · refine go_icmp_gtF (tgt := 14) (eD DX3_kindOfRun 5 rfl) rfl (by omega) (by decide) h2 ?_
      simp only [if_neg h1, if_neg h2]
      exact go_iconst (eD DX3_kindOfRun 6 rfl) (go_iret (eD DX3_kindOfRun 7 rfl) rfl)
theorem y_kindOfRun (w : eW) (c : Int) (hc : eI c) : Cal mX3_kindOfRun [(0, c)] w (some (0, krF c)) w := by
  refine Cal.as (zX3_kindOfRun w c hc) ?_ rfl
  unfold rX3_kindOfRun krF
  congr 2
  (repeat' split) <;> first | rfl | (exfalso; omega)
def rX3_longestRun (w : eW) (k : Int) : Int := if k = 1 then 14 else 4
set_option maxRecDepth 20000 in
theorem zX3_longestRun (w : eW) (k : Int) (hk : eI k) : Cal mX3_longestRun [(0, k)] w (some (0, rX3_longestRun w k)) w := by
  unfold rX3_longestRun
  refine Cal.of (by decide +kernel) (Nat.le_of_ble_eq_true rfl) ?_
  show Go _ 0 [(0, (0, k))] [] _ _ _
  refine go_iload_n (eD DX3_longestRun 0 rfl) rfl rfl (go_iconst (eD DX3_longestRun 1 rfl) (?_))
  by_cases h1 : k = 1
  · refine go_icmp_neF (tgt := 10) (eD DX3_longestRun 2 rfl) rfl (by omega) (by decide) (not_not_intro h1) ?_
    simp only [if_pos h1]
    exact go_bipush (eD DX3_longestRun 3 rfl) (by decide) (go_goto (tgt := 11) (eD DX3_longestRun 4 rfl) rfl (go_iret (eD DX3_longestRun 6 rfl) rfl))
  · refine go_icmp_neT (tgt := 10) (eD DX3_longestRun 2 rfl) rfl (by omega) (by decide) h1 ?_
    simp only [if_neg h1]
    exact go_iconst (eD DX3_longestRun 5 rfl) (go_iret (eD DX3_longestRun 6 rfl) rfl)
def rX3_fail (w : eW) (k : Int) : Int := 0
def wX3_fail (w : eW) (k : Int) : eW := (eU (eU w 8 7 k) 8 8 (w 8 5))
set_option maxRecDepth 20000 in
theorem zX3_fail (w : eW) (k : Int) : Cal mX3_fail [eR 8, (0, k)] w (some (0, rX3_fail w k)) (wX3_fail w k) := by
  unfold rX3_fail wX3_fail
  refine Cal.of (by decide +kernel) (Nat.le_of_ble_eq_true rfl) ?_
  show Go _ 0 [(0, eR 8), (1, (0, k))] [] _ _ _
  exact go_aload_n (eD DX3_fail 0 rfl) rfl rfl (go_iload_n (eD DX3_fail 1 rfl) rfl rfl (go_putI (kz := 7) (eD DX3_fail 2 rfl) fX3_35 (by decide) rfl rfl (fun q h => by cases h; exact ⟨rfl, rfl⟩) rfl (go_aload_n (eD DX3_fail 3 rfl) rfl rfl (go_aload_n (eD DX3_fail 4 rfl) rfl rfl (go_getI (kz := 5) (eD DX3_fail 5 rfl) fX3_28 (by decide) rfl rfl rfl (go_putI (kz := 8) (eD DX3_fail 6 rfl) fX3_38 (by decide) rfl rfl (fun q h => by cases h; exact ⟨rfl, rfl⟩) rfl (go_iconst (eD DX3_fail 7 rfl) (go_zret (eD DX3_fail 8 rfl) rfl (by decide)))))))))
set_option maxHeartbeats 4000000 in
set_option maxRecDepth 20000 in
theorem tX3_advance_0 {r : Option eV} {w9 : eW} (w : eW) (k1 : Go mX3_advance 10 [(0, eR 8), (1, (0, 0))] [] (eU w 8 5 (w 8 3)) r w9) : Go mX3_advance 0 [(0, eR 8)] [] w r w9 := by
  exact go_aload_n (eD DX3_advance 0 rfl) rfl rfl (go_aload_n (eD DX3_advance 1 rfl) rfl rfl (go_getI (kz := 3) (eD DX3_advance 2 rfl) fX3_22 (by decide) rfl rfl rfl (go_putI (kz := 5) (eD DX3_advance 3 rfl) fX3_28 (by decide) rfl rfl (fun q h => by cases h; exact ⟨rfl, rfl⟩) rfl (go_iconst (eD DX3_advance 4 rfl) (go_istore_n (eD DX3_advance 5 rfl) rfl (by decide) (Go.pick [1, 0] rfl (k1)))))))
set_option maxHeartbeats 4000000 in
set_option maxRecDepth 20000 in
theorem tX3_advance_10 {r : Option eV} {w9 : eW} (w : eW) (i : Int) {v : Int} (hi : 0 ≤ i ∧ i ≤ 400) (hv : -1 ≤ v ∧ v ≤ 255) (g : Cal mX3_signAt [eR 8, (0, w 8 5)] w (some (0, v)) w) (k1 : i < 400 → v = 32 → Go mX3_advance 10 [(0, eR 8), (1, (0, i + 1))] [] (eU w 8 5 ((w 8 5) + 1)) r w9) (k2 : i < 400 → ¬ (v = 32) → Go mX3_advance 46 [(0, eR 8)] [] w r w9) (k3 : ¬ (i < 400) → Go mX3_advance 46 [(0, eR 8)] [] w r w9) : Go mX3_advance 10 [(0, eR 8), (1, (0, i))] [] w r w9 := by
  refine go_iload_n (eD DX3_advance 6 rfl) rfl rfl (go_sipush (eD DX3_advance 7 rfl) (by decide) (?_))
  by_cases h1 : i < 400
  · refine go_icmp_geF (tgt := 46) (eD DX3_advance 8 rfl) rfl (by omega) (by decide) (Int.not_le.mpr h1) ?_
    refine go_aload_n (eD DX3_advance 9 rfl) rfl rfl (go_aload_n (eD DX3_advance 10 rfl) rfl rfl (go_getI (kz := 5) (eD DX3_advance 11 rfl) fX3_28 (by decide) rfl rfl rfl (go_callV (ci := 3) [(0, w 8 5)] (eD DX3_advance 12 rfl) ⟨eMem 2 73 rfl rfl, sX3_signAt⟩ ⟨Nat.le_of_ble_eq_true rfl, Nat.le_of_ble_eq_true rfl⟩ (by decide) ⟨rfl, by decide, _, rfl, rfl⟩ rfl rfl (Nat.le_of_ble_eq_true rfl) g (go_bipush (eD DX3_advance 13 rfl) (by decide) (?_)))))
    by_cases h2 : v = 32
    · refine go_icmp_neF (tgt := 46) (eD DX3_advance 14 rfl) rfl (by omega) (by decide) (not_not_intro h2) ?_
      exact go_aload_n (eD DX3_advance 15 rfl) rfl rfl (go_dup (eD DX3_advance 16 rfl) (by decide) (go_getI (kz := 5) (eD DX3_advance 17 rfl) fX3_28 (by decide) rfl rfl rfl (go_iconst (eD DX3_advance 18 rfl) (go_iadd (eD DX3_advance 19 rfl) (go_putI (kz := 5) (eD DX3_advance 20 rfl) fX3_28 (by decide) rfl rfl (fun q h => by cases h; exact ⟨rfl, rfl⟩) rfl (go_iinc (eD DX3_advance 21 rfl) rfl (by decide) (go_goto (tgt := 10) (eD DX3_advance 22 rfl) rfl (Go.pick [1, 0] rfl (k1 h1 h2)))))))))
    · refine go_icmp_neT (tgt := 46) (eD DX3_advance 14 rfl) rfl (by omega) (by decide) h2 ?_
      exact Go.pick [0] rfl (k2 h1 h2)
  · refine go_icmp_geT (tgt := 46) (eD DX3_advance 8 rfl) rfl (by omega) (by decide) (Int.not_lt.mp h1) ?_
    exact Go.pick [0] rfl (k3 h1)
set_option maxHeartbeats 4000000 in
set_option maxRecDepth 20000 in
theorem tX3_advance_46 {r : Option eV} {w9 : eW} (w : eW) {v kr : Int} (hv : -1 ≤ v ∧ v ≤ 255) (g : Cal mX3_signAt [eR 8, (0, w 8 5)] w (some (0, v)) w) (g2 : Cal mX3_kindOfRun [(0, v)] w (some (0, kr)) w) (k1 : v < 0 → Go mX3_advance 83 [(0, eR 8), (1, (0, v)), (2, (0, kr)), (3, (0, 0))] [] (eU w 8 3 (w 8 5)) r w9) (k2 : ¬ (v < 0) → Go mX3_advance 83 [(0, eR 8), (1, (0, v)), (2, (0, kr)), (3, (0, 0))] [] (eU w 8 3 ((w 8 5) + 1)) r w9) : Go mX3_advance 46 [(0, eR 8)] [] w r w9 := by
  refine go_aload_n (eD DX3_advance 23 rfl) rfl rfl (go_aload_n (eD DX3_advance 24 rfl) rfl rfl (go_getI (kz := 5) (eD DX3_advance 25 rfl) fX3_28 (by decide) rfl rfl rfl (go_callV (ci := 3) [(0, w 8 5)] (eD DX3_advance 26 rfl) ⟨eMem 2 73 rfl rfl, sX3_signAt⟩ ⟨Nat.le_of_ble_eq_true rfl, Nat.le_of_ble_eq_true rfl⟩ (by decide) ⟨rfl, by decide, _, rfl, rfl⟩ rfl rfl (Nat.le_of_ble_eq_true rfl) g (go_istore_n (eD DX3_advance 27 rfl) rfl (by decide) (go_iload_n (eD DX3_advance 28 rfl) rfl rfl (go_callS [(0, v)] (eD DX3_advance 29 rfl) ⟨eMem 2 77 rfl rfl, sX3_kindOfRun⟩ ⟨Nat.le_of_ble_eq_true rfl, Nat.le_of_ble_eq_true rfl⟩ rfl rfl (Nat.le_of_ble_eq_true rfl) g2 (go_istore_n (eD DX3_advance 30 rfl) rfl (by decide) (go_aload_n (eD DX3_advance 31 rfl) rfl rfl (go_iload_n (eD DX3_advance 32 rfl) rfl rfl (?_))))))))))
  by_cases h1 : v < 0
  · refine go_if_geF (tgt := 72) (eD DX3_advance 33 rfl) rfl (by omega) (Int.not_le.mpr h1) ?_
    exact go_aload_n (eD DX3_advance 34 rfl) rfl rfl (go_getI (kz := 5) (eD DX3_advance 35 rfl) fX3_28 (by decide) rfl rfl rfl (go_goto (tgt := 78) (eD DX3_advance 36 rfl) rfl (go_putI (kz := 3) (eD DX3_advance 41 rfl) fX3_22 (by decide) rfl rfl (fun q h => by cases h; exact ⟨rfl, rfl⟩) rfl (go_iconst (eD DX3_advance 42 rfl) (go_istore_n (eD DX3_advance 43 rfl) rfl (by decide) (Go.pick [3, 2, 1, 0] rfl (k1 h1)))))))
  · refine go_if_geT (tgt := 72) (eD DX3_advance 33 rfl) rfl (by omega) (Int.not_lt.mp h1) ?_
    exact go_aload_n (eD DX3_advance 37 rfl) rfl rfl (go_getI (kz := 5) (eD DX3_advance 38 rfl) fX3_28 (by decide) rfl rfl rfl (go_iconst (eD DX3_advance 39 rfl) (go_iadd (eD DX3_advance 40 rfl) (go_putI (kz := 3) (eD DX3_advance 41 rfl) fX3_22 (by decide) rfl rfl (fun q h => by cases h; exact ⟨rfl, rfl⟩) rfl (go_iconst (eD DX3_advance 42 rfl) (go_istore_n (eD DX3_advance 43 rfl) rfl (by decide) (Go.pick [3, 2, 1, 0] rfl (k2 h1))))))))
set_option maxHeartbeats 4000000 in
set_option maxRecDepth 20000 in
theorem tX3_advance_83 {r : Option eV} {w9 : eW} (w : eW) (v0 kr i : Int) {v kq : Int} (hi : 0 ≤ i ∧ i ≤ 400) (hv : -1 ≤ v ∧ v ≤ 255) (hk : -1 ≤ kr ∧ kr ≤ 2) (hkq : -1 ≤ kq ∧ kq ≤ 2) (g : Cal mX3_signAt [eR 8, (0, w 8 3)] w (some (0, v)) w) (g2 : Cal mX3_kindOfRun [(0, v)] w (some (0, kq)) w) (k1 : i < 400 → kr = (-1) → Go mX3_advance 126 [(0, eR 8), (1, (0, v0)), (2, (0, kr))] [] w r w9) (k2 : i < 400 → ¬ (kr = (-1)) → kq = kr → Go mX3_advance 83 [(0, eR 8), (1, (0, v0)), (2, (0, kr)), (3, (0, i + 1))] [] (eU w 8 3 ((w 8 3) + 1)) r w9) (k3 : i < 400 → ¬ (kr = (-1)) → ¬ (kq = kr) → Go mX3_advance 126 [(0, eR 8), (1, (0, v0)), (2, (0, kr))] [] w r w9) (k4 : ¬ (i < 400) → Go mX3_advance 126 [(0, eR 8), (1, (0, v0)), (2, (0, kr))] [] w r w9) : Go mX3_advance 83 [(0, eR 8), (1, (0, v0)), (2, (0, kr)), (3, (0, i))] [] w r w9 := by
  refine go_iload_n (eD DX3_advance 44 rfl) rfl rfl (go_sipush (eD DX3_advance 45 rfl) (by decide) (?_))
  by_cases h1 : i < 400
  · refine go_icmp_geF (tgt := 126) (eD DX3_advance 46 rfl) rfl (by omega) (by decide) (Int.not_le.mpr h1) ?_
    refine go_iload_n (eD DX3_advance 47 rfl) rfl rfl (go_iconst (eD DX3_advance 48 rfl) (?_))
    by_cases h2 : kr = (-1)
    · refine go_icmp_eqT (tgt := 126) (eD DX3_advance 49 rfl) rfl (by omega) (by decide) h2 ?_
      exact Go.pick [0, 1, 2] rfl (k1 h1 h2)
    · refine go_icmp_eqF (tgt := 126) (eD DX3_advance 49 rfl) rfl (by omega) (by decide) h2 ?_
      refine go_aload_n (eD DX3_advance 50 rfl) rfl rfl (go_aload_n (eD DX3_advance 51 rfl) rfl rfl (go_getI (kz := 3) (eD DX3_advance 52 rfl) fX3_22 (by decide) rfl rfl rfl (go_callV (ci := 3) [(0, w 8 3)] (eD DX3_advance 53 rfl) ⟨eMem 2 73 rfl rfl, sX3_signAt⟩ ⟨Nat.le_of_ble_eq_true rfl, Nat.le_of_ble_eq_true rfl⟩ (by decide) ⟨rfl, by decide, _, rfl, rfl⟩ rfl rfl (Nat.le_of_ble_eq_true rfl) g (go_callS [(0, v)] (eD DX3_advance 54 rfl) ⟨eMem 2 77 rfl rfl, sX3_kindOfRun⟩ ⟨Nat.le_of_ble_eq_true rfl, Nat.le_of_ble_eq_true rfl⟩ rfl rfl (Nat.le_of_ble_eq_true rfl) g2 (go_iload_n (eD DX3_advance 55 rfl) rfl rfl (?_))))))
      by_cases h3 : kq = kr
      · refine go_icmp_neF (tgt := 126) (eD DX3_advance 56 rfl) rfl (by omega) (by omega) (not_not_intro h3) ?_
        exact go_aload_n (eD DX3_advance 57 rfl) rfl rfl (go_dup (eD DX3_advance 58 rfl) (by decide) (go_getI (kz := 3) (eD DX3_advance 59 rfl) fX3_22 (by decide) rfl rfl rfl (go_iconst (eD DX3_advance 60 rfl) (go_iadd (eD DX3_advance 61 rfl) (go_putI (kz := 3) (eD DX3_advance 62 rfl) fX3_22 (by decide) rfl rfl (fun q h => by cases h; exact ⟨rfl, rfl⟩) rfl (go_iinc (eD DX3_advance 63 rfl) rfl (by decide) (go_goto (tgt := 83) (eD DX3_advance 64 rfl) rfl (Go.pick [1, 2, 3, 0] rfl (k2 h1 h2 h3)))))))))
      · refine go_icmp_neT (tgt := 126) (eD DX3_advance 56 rfl) rfl (by omega) (by omega) h3 ?_
        exact Go.pick [0, 1, 2] rfl (k3 h1 h2 h3)
  · refine go_icmp_geT (tgt := 126) (eD DX3_advance 46 rfl) rfl (by omega) (by decide) (Int.not_lt.mp h1) ?_
    exact Go.pick [0, 1, 2] rfl (k4 h1)
set_option maxHeartbeats 4000000 in
set_option maxRecDepth 20000 in
theorem tX3_advance_126 {r : Option eV} {w9 : eW} (w : eW) (v0 kr : Int) (hv : -1 ≤ v0 ∧ v0 ≤ 255) (hk : -1 ≤ kr ∧ kr ≤ 2) (hp : 0 ≤ w 8 5 ∧ w 8 5 ≤ 400 ∧ 0 ≤ w 8 3 ∧ w 8 3 ≤ 400) (k1 : v0 < 0 → r = none ∧ w9 = (eU w 8 4 0)) (k2 : ¬ (v0 < 0) → v0 = 59 → r = none ∧ w9 = (eU w 8 4 v0)) (k3 : ¬ (v0 < 0) → ¬ (v0 = 59) → v0 = 44 → r = none ∧ w9 = (eU w 8 4 v0)) (k4 : ¬ (v0 < 0) → ¬ (v0 = 59) → ¬ (v0 = 44) → v0 = 47 → r = none ∧ w9 = (eU w 8 4 v0)) (k5 : ¬ (v0 < 0) → ¬ (v0 = 59) → ¬ (v0 = 44) → ¬ (v0 = 47) → kr = 1 → 14 < ((w 8 3) - (w 8 5)) → r = none ∧ w9 = (eU w 8 4 (-1))) (k6 : ¬ (v0 < 0) → ¬ (v0 = 59) → ¬ (v0 = 44) → ¬ (v0 = 47) → kr = 1 → ¬ (14 < ((w 8 3) - (w 8 5))) → r = none ∧ w9 = (eU w 8 4 kr)) (k7 : ¬ (v0 < 0) → ¬ (v0 = 59) → ¬ (v0 = 44) → ¬ (v0 = 47) → ¬ (kr = 1) → 4 < ((w 8 3) - (w 8 5)) → r = none ∧ w9 = (eU w 8 4 (-1))) (k8 : ¬ (v0 < 0) → ¬ (v0 = 59) → ¬ (v0 = 44) → ¬ (v0 = 47) → ¬ (kr = 1) → ¬ (4 < ((w 8 3) - (w 8 5))) → r = none ∧ w9 = (eU w 8 4 kr)) : Go mX3_advance 126 [(0, eR 8), (1, (0, v0)), (2, (0, kr))] [] w r w9 := by
  refine go_iload_n (eD DX3_advance 65 rfl) rfl rfl (?_)
  by_cases h1 : v0 < 0
  · refine go_if_geF (tgt := 138) (eD DX3_advance 66 rfl) rfl (by omega) (Int.not_le.mpr h1) ?_
    rw [(k1 h1).1, (k1 h1).2]
    exact go_aload_n (eD DX3_advance 67 rfl) rfl rfl (go_iconst (eD DX3_advance 68 rfl) (go_putI (kz := 4) (eD DX3_advance 69 rfl) fX3_25 (by decide) rfl rfl (fun q h => by cases h; exact ⟨rfl, rfl⟩) rfl (go_goto (tgt := 189) (eD DX3_advance 70 rfl) rfl (go_vret (eD DX3_advance 97 rfl) rfl))))
  · refine go_if_geT (tgt := 138) (eD DX3_advance 66 rfl) rfl (by omega) (Int.not_lt.mp h1) ?_
    refine go_iload_n (eD DX3_advance 71 rfl) rfl rfl (go_bipush (eD DX3_advance 72 rfl) (by decide) (?_))
    by_cases h2 : v0 = 59
    · refine go_icmp_eqT (tgt := 156) (eD DX3_advance 73 rfl) rfl (by omega) (by decide) h2 ?_
      rw [(k2 h1 h2).1, (k2 h1 h2).2]
      exact go_aload_n (eD DX3_advance 80 rfl) rfl rfl (go_iload_n (eD DX3_advance 81 rfl) rfl rfl (go_putI (kz := 4) (eD DX3_advance 82 rfl) fX3_25 (by decide) rfl rfl (fun q h => by cases h; exact ⟨rfl, rfl⟩) rfl (go_goto (tgt := 189) (eD DX3_advance 83 rfl) rfl (go_vret (eD DX3_advance 97 rfl) rfl))))
    · refine go_icmp_eqF (tgt := 156) (eD DX3_advance 73 rfl) rfl (by omega) (by decide) h2 ?_
      refine go_iload_n (eD DX3_advance 74 rfl) rfl rfl (go_bipush (eD DX3_advance 75 rfl) (by decide) (?_))
      by_cases h3 : v0 = 44
      · refine go_icmp_eqT (tgt := 156) (eD DX3_advance 76 rfl) rfl (by omega) (by decide) h3 ?_
        rw [(k3 h1 h2 h3).1, (k3 h1 h2 h3).2]
        exact go_aload_n (eD DX3_advance 80 rfl) rfl rfl (go_iload_n (eD DX3_advance 81 rfl) rfl rfl (go_putI (kz := 4) (eD DX3_advance 82 rfl) fX3_25 (by decide) rfl rfl (fun q h => by cases h; exact ⟨rfl, rfl⟩) rfl (go_goto (tgt := 189) (eD DX3_advance 83 rfl) rfl (go_vret (eD DX3_advance 97 rfl) rfl))))
      · refine go_icmp_eqF (tgt := 156) (eD DX3_advance 76 rfl) rfl (by omega) (by decide) h3 ?_
        refine go_iload_n (eD DX3_advance 77 rfl) rfl rfl (go_bipush (eD DX3_advance 78 rfl) (by decide) (?_))
        by_cases h4 : v0 = 47
        · refine go_icmp_neF (tgt := 164) (eD DX3_advance 79 rfl) rfl (by omega) (by decide) (not_not_intro h4) ?_
          rw [(k4 h1 h2 h3 h4).1, (k4 h1 h2 h3 h4).2]
          exact go_aload_n (eD DX3_advance 80 rfl) rfl rfl (go_iload_n (eD DX3_advance 81 rfl) rfl rfl (go_putI (kz := 4) (eD DX3_advance 82 rfl) fX3_25 (by decide) rfl rfl (fun q h => by cases h; exact ⟨rfl, rfl⟩) rfl (go_goto (tgt := 189) (eD DX3_advance 83 rfl) rfl (go_vret (eD DX3_advance 97 rfl) rfl))))
        · refine go_icmp_neT (tgt := 164) (eD DX3_advance 79 rfl) rfl (by omega) (by decide) h4 ?_
          refine go_aload_n (eD DX3_advance 84 rfl) rfl rfl (go_aload_n (eD DX3_advance 85 rfl) rfl rfl (go_getI (kz := 3) (eD DX3_advance 86 rfl) fX3_22 (by decide) rfl rfl rfl (go_aload_n (eD DX3_advance 87 rfl) rfl rfl (go_getI (kz := 5) (eD DX3_advance 88 rfl) fX3_28 (by decide) rfl rfl rfl (go_isub (eD DX3_advance 89 rfl) (go_iload_n (eD DX3_advance 90 rfl) rfl rfl (?_)))))))
          by_cases h5 : kr = 1
          · refine go_callS [(0, kr)] (eD DX3_advance 91 rfl) ⟨eMem 2 80 rfl rfl, sX3_longestRun⟩ ⟨Nat.le_of_ble_eq_true rfl, Nat.le_of_ble_eq_true rfl⟩ rfl rfl (Nat.le_of_ble_eq_true rfl) (Cal.as (zX3_longestRun w kr (by omega) ) (r2 := some (0, 14)) (w2 := w) (by (try simp only [rX3_longestRun, if_neg h1, if_neg h2, if_neg h3, if_neg h4, if_pos h5]) <;> (try rfl)) rfl) (?_)
            by_cases h6 : 14 < ((w 8 3) - (w 8 5))
            · refine go_icmp_leF (tgt := 185) (eD DX3_advance 92 rfl) rfl (show eI ((w 8 3) - (w 8 5)) from by omega) (by decide) (Int.not_le.mpr h6) ?_
              rw [(k5 h1 h2 h3 h4 h5 h6).1, (k5 h1 h2 h3 h4 h5 h6).2]
              exact go_iconst (eD DX3_advance 93 rfl) (go_goto (tgt := 186) (eD DX3_advance 94 rfl) rfl (go_putI (kz := 4) (eD DX3_advance 96 rfl) fX3_25 (by decide) rfl rfl (fun q h => by cases h; exact ⟨rfl, rfl⟩) rfl (go_vret (eD DX3_advance 97 rfl) rfl)))
            · refine go_icmp_leT (tgt := 185) (eD DX3_advance 92 rfl) rfl (show eI ((w 8 3) - (w 8 5)) from by omega) (by decide) (Int.not_lt.mp h6) ?_
              rw [(k6 h1 h2 h3 h4 h5 h6).1, (k6 h1 h2 h3 h4 h5 h6).2]
              exact go_iload_n (eD DX3_advance 95 rfl) rfl rfl (go_putI (kz := 4) (eD DX3_advance 96 rfl) fX3_25 (by decide) rfl rfl (fun q h => by cases h; exact ⟨rfl, rfl⟩) rfl (go_vret (eD DX3_advance 97 rfl) rfl))
          · refine go_callS [(0, kr)] (eD DX3_advance 91 rfl) ⟨eMem 2 80 rfl rfl, sX3_longestRun⟩ ⟨Nat.le_of_ble_eq_true rfl, Nat.le_of_ble_eq_true rfl⟩ rfl rfl (Nat.le_of_ble_eq_true rfl) (Cal.as (zX3_longestRun w kr (by omega) ) (r2 := some (0, 4)) (w2 := w) (by (try simp only [rX3_longestRun, if_neg h1, if_neg h2, if_neg h3, if_neg h4, if_neg h5]) <;> (try rfl)) rfl) (?_)
            by_cases h6 : 4 < ((w 8 3) - (w 8 5))
            · refine go_icmp_leF (tgt := 185) (eD DX3_advance 92 rfl) rfl (show eI ((w 8 3) - (w 8 5)) from by omega) (by decide) (Int.not_le.mpr h6) ?_
              rw [(k7 h1 h2 h3 h4 h5 h6).1, (k7 h1 h2 h3 h4 h5 h6).2]
              exact go_iconst (eD DX3_advance 93 rfl) (go_goto (tgt := 186) (eD DX3_advance 94 rfl) rfl (go_putI (kz := 4) (eD DX3_advance 96 rfl) fX3_25 (by decide) rfl rfl (fun q h => by cases h; exact ⟨rfl, rfl⟩) rfl (go_vret (eD DX3_advance 97 rfl) rfl)))
            · refine go_icmp_leT (tgt := 185) (eD DX3_advance 92 rfl) rfl (show eI ((w 8 3) - (w 8 5)) from by omega) (by decide) (Int.not_lt.mp h6) ?_
              rw [(k8 h1 h2 h3 h4 h5 h6).1, (k8 h1 h2 h3 h4 h5 h6).2]
              exact go_iload_n (eD DX3_advance 95 rfl) rfl rfl (go_putI (kz := 4) (eD DX3_advance 96 rfl) fX3_25 (by decide) rfl rfl (fun q h => by cases h; exact ⟨rfl, rfl⟩) rfl (go_vret (eD DX3_advance 97 rfl) rfl))
set_option maxHeartbeats 4000000 in
set_option maxRecDepth 20000 in
theorem tX3_wholeValue_0 {r : Option eV} {w9 : eW} (w : eW) (k1 : Go mX3_wholeValue 7 [(0, eR 8), (1, (0, 0)), (2, (0, w 8 5))] [] w r w9) : Go mX3_wholeValue 0 [(0, eR 8)] [] w r w9 := by
  exact go_iconst (eD DX3_wholeValue 0 rfl) (go_istore_n (eD DX3_wholeValue 1 rfl) rfl (by decide) (go_aload_n (eD DX3_wholeValue 2 rfl) rfl rfl (go_getI (kz := 5) (eD DX3_wholeValue 3 rfl) fX3_28 (by decide) rfl rfl rfl (go_istore_n (eD DX3_wholeValue 4 rfl) rfl (by decide) (Go.pick [2, 1, 0] rfl (k1))))))
set_option maxHeartbeats 4000000 in
set_option maxRecDepth 20000 in
theorem tX3_wholeValue_7 {r : Option eV} {w9 : eW} (w : eW) (v p : Int) {c : Int} (hp : 0 ≤ p ∧ p ≤ 400 ∧ 0 ≤ w 8 3 ∧ w 8 3 ≤ 400) (g : Cal mX3_signAt [eR 8, (0, p)] w (some (0, c)) w) (k1 : p < (w 8 3) → Go mX3_wholeValue 7 [(0, eR 8), (1, (0, (v * 10) + (c - 48))), (2, (0, p + 1))] [] w r w9) (k2 : ¬ (p < (w 8 3)) → r = some (0, v) ∧ w9 = w) : Go mX3_wholeValue 7 [(0, eR 8), (1, (0, v)), (2, (0, p))] [] w r w9 := by
  refine go_iload_n (eD DX3_wholeValue 5 rfl) rfl rfl (go_aload_n (eD DX3_wholeValue 6 rfl) rfl rfl (go_getI (kz := 3) (eD DX3_wholeValue 7 rfl) fX3_22 (by decide) rfl rfl rfl (?_)))
  by_cases h1 : p < (w 8 3)
  · refine go_icmp_geF (tgt := 35) (eD DX3_wholeValue 8 rfl) rfl (by omega) (show eI (w 8 3) from by omega) (Int.not_le.mpr h1) ?_
    exact go_iload_n (eD DX3_wholeValue 9 rfl) rfl rfl (go_bipush (eD DX3_wholeValue 10 rfl) (by decide) (go_imul (eD DX3_wholeValue 11 rfl) (go_aload_n (eD DX3_wholeValue 12 rfl) rfl rfl (go_iload_n (eD DX3_wholeValue 13 rfl) rfl rfl (go_callV (ci := 3) [(0, p)] (eD DX3_wholeValue 14 rfl) ⟨eMem 2 73 rfl rfl, sX3_signAt⟩ ⟨Nat.le_of_ble_eq_true rfl, Nat.le_of_ble_eq_true rfl⟩ (by decide) ⟨rfl, by decide, _, rfl, rfl⟩ rfl rfl (Nat.le_of_ble_eq_true rfl) g (go_bipush (eD DX3_wholeValue 15 rfl) (by decide) (go_isub (eD DX3_wholeValue 16 rfl) (go_iadd (eD DX3_wholeValue 17 rfl) (go_istore_n (eD DX3_wholeValue 18 rfl) rfl (by decide) (go_iinc (eD DX3_wholeValue 19 rfl) rfl (by decide) (go_goto (tgt := 7) (eD DX3_wholeValue 20 rfl) rfl (Go.pick [2, 1, 0] rfl (k1 h1)))))))))))))
  · refine go_icmp_geT (tgt := 35) (eD DX3_wholeValue 8 rfl) rfl (by omega) (show eI (w 8 3) from by omega) (Int.not_lt.mp h1) ?_
    rw [(k2 h1).1, (k2 h1).2]
    exact go_iload_n (eD DX3_wholeValue 21 rfl) rfl rfl (go_iret (eD DX3_wholeValue 22 rfl) rfl)
set_option maxHeartbeats 4000000 in
set_option maxRecDepth 20000 in
theorem tX3_isWord110_0 {r : Option eV} {w9 : eW} (w : eW) (hp : 0 ≤ w 8 5 ∧ w 8 5 ≤ 400 ∧ 0 ≤ w 8 3 ∧ w 8 3 ≤ 400) (hk : eI (w 8 4)) (k1 : (w 8 4) = 1 → ((w 8 3) - (w 8 5)) = 5 → Go mX3_isWord 28 [(0, eR 8), (1, eR 110), (2, (0, 0))] [] w r w9) (k2 : (w 8 4) = 1 → ¬ (((w 8 3) - (w 8 5)) = 5) → r = some (0, 0) ∧ w9 = w) (k3 : ¬ ((w 8 4) = 1) → r = some (0, 0) ∧ w9 = w) : Go mX3_isWord 0 [(0, eR 8), (1, eR 110)] [] w r w9 := by
  refine go_aload_n (eD DX3_isWord 0 rfl) rfl rfl (go_getI (kz := 4) (eD DX3_isWord 1 rfl) fX3_25 (by decide) rfl rfl rfl (go_iconst (eD DX3_isWord 2 rfl) (?_)))
  by_cases h1 : (w 8 4) = 1
  · refine go_icmp_neF (tgt := 24) (eD DX3_isWord 3 rfl) rfl (show eI (w 8 4) from by omega) (by decide) (not_not_intro h1) ?_
    refine go_aload_n (eD DX3_isWord 4 rfl) rfl rfl (go_getI (kz := 3) (eD DX3_isWord 5 rfl) fX3_22 (by decide) rfl rfl rfl (go_aload_n (eD DX3_isWord 6 rfl) rfl rfl (go_getI (kz := 5) (eD DX3_isWord 7 rfl) fX3_28 (by decide) rfl rfl rfl (go_isub (eD DX3_isWord 8 rfl) (go_aload_n (eD DX3_isWord 9 rfl) rfl rfl (go_callT [] (eD DX3_isWord 10 rfl) ⟨eMem 2 88 rfl rfl, sJ0_length_8abf5⟩ ⟨Nat.le_of_ble_eq_true rfl, Nat.le_of_ble_eq_true rfl⟩ (by decide) rfl rfl rfl (Nat.le_of_ble_eq_true rfl) (y_length w 0 (by decide)) (?_)))))))
    by_cases h2 : ((w 8 3) - (w 8 5)) = 5
    · refine go_icmp_eqT (tgt := 26) (eD DX3_isWord 11 rfl) rfl (show eI ((w 8 3) - (w 8 5)) from by omega) (by decide) h2 ?_
      exact go_iconst (eD DX3_isWord 14 rfl) (go_istore_n (eD DX3_isWord 15 rfl) rfl (by decide) (Go.pick [1, 2, 0] rfl (k1 h1 h2)))
    · refine go_icmp_eqF (tgt := 26) (eD DX3_isWord 11 rfl) rfl (show eI ((w 8 3) - (w 8 5)) from by omega) (by decide) h2 ?_
      rw [(k2 h1 h2).1, (k2 h1 h2).2]
      exact go_iconst (eD DX3_isWord 12 rfl) (go_zret (eD DX3_isWord 13 rfl) rfl (by decide))
  · refine go_icmp_neT (tgt := 24) (eD DX3_isWord 3 rfl) rfl (show eI (w 8 4) from by omega) (by decide) h1 ?_
    rw [(k3 h1).1, (k3 h1).2]
    exact go_iconst (eD DX3_isWord 12 rfl) (go_zret (eD DX3_isWord 13 rfl) rfl (by decide))
set_option maxHeartbeats 4000000 in
set_option maxRecDepth 20000 in
theorem tX3_isWord110_28 {r : Option eV} {w9 : eW} (w : eW) (i : Int) {v cv : Int} (hi : 0 ≤ i ∧ i ≤ 5) (hv : -1 ≤ v ∧ v ≤ 255) (hc : 0 ≤ cv ∧ cv < 128) (g : Cal mX3_signAt [eR 8, (0, (w 8 5) + i)] w (some (0, v)) w) (g2 : i < 5 → Cal mJ0_charAt_5068e [eR 110, (0, i)] w (some (0, cv)) w) (k1 : i < 5 → v = cv → Go mX3_isWord 28 [(0, eR 8), (1, eR 110), (2, (0, i + 1))] [] w r w9) (k2 : i < 5 → ¬ (v = cv) → r = some (0, 0) ∧ w9 = w) (k3 : ¬ (i < 5) → r = some (0, 1) ∧ w9 = w) : Go mX3_isWord 28 [(0, eR 8), (1, eR 110), (2, (0, i))] [] w r w9 := by
  refine go_iload_n (eD DX3_isWord 16 rfl) rfl rfl (go_aload_n (eD DX3_isWord 17 rfl) rfl rfl (go_callT [] (eD DX3_isWord 18 rfl) ⟨eMem 2 88 rfl rfl, sJ0_length_8abf5⟩ ⟨Nat.le_of_ble_eq_true rfl, Nat.le_of_ble_eq_true rfl⟩ (by decide) rfl rfl rfl (Nat.le_of_ble_eq_true rfl) (y_length w 0 (by decide)) (?_)))
  by_cases h1 : i < 5
  · refine go_icmp_geF (tgt := 62) (eD DX3_isWord 19 rfl) rfl (by omega) (by decide) (Int.not_le.mpr h1) ?_
    refine go_aload_n (eD DX3_isWord 20 rfl) rfl rfl (go_aload_n (eD DX3_isWord 21 rfl) rfl rfl (go_getI (kz := 5) (eD DX3_isWord 22 rfl) fX3_28 (by decide) rfl rfl rfl (go_iload_n (eD DX3_isWord 23 rfl) rfl rfl (go_iadd (eD DX3_isWord 24 rfl) (go_callV (ci := 3) [(0, (w 8 5) + i)] (eD DX3_isWord 25 rfl) ⟨eMem 2 73 rfl rfl, sX3_signAt⟩ ⟨Nat.le_of_ble_eq_true rfl, Nat.le_of_ble_eq_true rfl⟩ (by decide) ⟨rfl, by decide, _, rfl, rfl⟩ rfl rfl (Nat.le_of_ble_eq_true rfl) g (go_aload_n (eD DX3_isWord 26 rfl) rfl rfl (go_iload_n (eD DX3_isWord 27 rfl) rfl rfl (go_callT [(0, i)] (eD DX3_isWord 28 rfl) ⟨eMem 2 98 rfl rfl, sJ0_charAt_5068e⟩ ⟨Nat.le_of_ble_eq_true rfl, Nat.le_of_ble_eq_true rfl⟩ (by decide) rfl rfl rfl (Nat.le_of_ble_eq_true rfl) (g2 (by assumption)) (?_)))))))))
    by_cases h2 : v = cv
    · refine go_icmp_eqT (tgt := 56) (eD DX3_isWord 29 rfl) rfl (by omega) (by omega) h2 ?_
      exact go_iinc (eD DX3_isWord 32 rfl) rfl (by decide) (go_goto (tgt := 28) (eD DX3_isWord 33 rfl) rfl (Go.pick [1, 2, 0] rfl (k1 h1 h2)))
    · refine go_icmp_eqF (tgt := 56) (eD DX3_isWord 29 rfl) rfl (by omega) (by omega) h2 ?_
      rw [(k2 h1 h2).1, (k2 h1 h2).2]
      exact go_iconst (eD DX3_isWord 30 rfl) (go_zret (eD DX3_isWord 31 rfl) rfl (by decide))
  · refine go_icmp_geT (tgt := 62) (eD DX3_isWord 19 rfl) rfl (by omega) (by decide) (Int.not_lt.mp h1) ?_
    rw [(k3 h1).1, (k3 h1).2]
    exact go_iconst (eD DX3_isWord 34 rfl) (go_zret (eD DX3_isWord 35 rfl) rfl (by decide))
set_option maxHeartbeats 4000000 in
set_option maxRecDepth 20000 in
theorem tX3_isWord111_0 {r : Option eV} {w9 : eW} (w : eW) (hp : 0 ≤ w 8 5 ∧ w 8 5 ≤ 400 ∧ 0 ≤ w 8 3 ∧ w 8 3 ≤ 400) (hk : eI (w 8 4)) (k1 : (w 8 4) = 1 → ((w 8 3) - (w 8 5)) = 5 → Go mX3_isWord 28 [(0, eR 8), (1, eR 111), (2, (0, 0))] [] w r w9) (k2 : (w 8 4) = 1 → ¬ (((w 8 3) - (w 8 5)) = 5) → r = some (0, 0) ∧ w9 = w) (k3 : ¬ ((w 8 4) = 1) → r = some (0, 0) ∧ w9 = w) : Go mX3_isWord 0 [(0, eR 8), (1, eR 111)] [] w r w9 := by
  refine go_aload_n (eD DX3_isWord 0 rfl) rfl rfl (go_getI (kz := 4) (eD DX3_isWord 1 rfl) fX3_25 (by decide) rfl rfl rfl (go_iconst (eD DX3_isWord 2 rfl) (?_)))
  by_cases h1 : (w 8 4) = 1
  · refine go_icmp_neF (tgt := 24) (eD DX3_isWord 3 rfl) rfl (show eI (w 8 4) from by omega) (by decide) (not_not_intro h1) ?_
    refine go_aload_n (eD DX3_isWord 4 rfl) rfl rfl (go_getI (kz := 3) (eD DX3_isWord 5 rfl) fX3_22 (by decide) rfl rfl rfl (go_aload_n (eD DX3_isWord 6 rfl) rfl rfl (go_getI (kz := 5) (eD DX3_isWord 7 rfl) fX3_28 (by decide) rfl rfl rfl (go_isub (eD DX3_isWord 8 rfl) (go_aload_n (eD DX3_isWord 9 rfl) rfl rfl (go_callT [] (eD DX3_isWord 10 rfl) ⟨eMem 2 88 rfl rfl, sJ0_length_8abf5⟩ ⟨Nat.le_of_ble_eq_true rfl, Nat.le_of_ble_eq_true rfl⟩ (by decide) rfl rfl rfl (Nat.le_of_ble_eq_true rfl) (y_length w 1 (by decide)) (?_)))))))
    by_cases h2 : ((w 8 3) - (w 8 5)) = 5
    · refine go_icmp_eqT (tgt := 26) (eD DX3_isWord 11 rfl) rfl (show eI ((w 8 3) - (w 8 5)) from by omega) (by decide) h2 ?_
      exact go_iconst (eD DX3_isWord 14 rfl) (go_istore_n (eD DX3_isWord 15 rfl) rfl (by decide) (Go.pick [1, 2, 0] rfl (k1 h1 h2)))
    · refine go_icmp_eqF (tgt := 26) (eD DX3_isWord 11 rfl) rfl (show eI ((w 8 3) - (w 8 5)) from by omega) (by decide) h2 ?_
      rw [(k2 h1 h2).1, (k2 h1 h2).2]
      exact go_iconst (eD DX3_isWord 12 rfl) (go_zret (eD DX3_isWord 13 rfl) rfl (by decide))
  · refine go_icmp_neT (tgt := 24) (eD DX3_isWord 3 rfl) rfl (show eI (w 8 4) from by omega) (by decide) h1 ?_
    rw [(k3 h1).1, (k3 h1).2]
    exact go_iconst (eD DX3_isWord 12 rfl) (go_zret (eD DX3_isWord 13 rfl) rfl (by decide))
set_option maxHeartbeats 4000000 in
set_option maxRecDepth 20000 in
theorem tX3_isWord111_28 {r : Option eV} {w9 : eW} (w : eW) (i : Int) {v cv : Int} (hi : 0 ≤ i ∧ i ≤ 5) (hv : -1 ≤ v ∧ v ≤ 255) (hc : 0 ≤ cv ∧ cv < 128) (g : Cal mX3_signAt [eR 8, (0, (w 8 5) + i)] w (some (0, v)) w) (g2 : i < 5 → Cal mJ0_charAt_5068e [eR 111, (0, i)] w (some (0, cv)) w) (k1 : i < 5 → v = cv → Go mX3_isWord 28 [(0, eR 8), (1, eR 111), (2, (0, i + 1))] [] w r w9) (k2 : i < 5 → ¬ (v = cv) → r = some (0, 0) ∧ w9 = w) (k3 : ¬ (i < 5) → r = some (0, 1) ∧ w9 = w) : Go mX3_isWord 28 [(0, eR 8), (1, eR 111), (2, (0, i))] [] w r w9 := by
  refine go_iload_n (eD DX3_isWord 16 rfl) rfl rfl (go_aload_n (eD DX3_isWord 17 rfl) rfl rfl (go_callT [] (eD DX3_isWord 18 rfl) ⟨eMem 2 88 rfl rfl, sJ0_length_8abf5⟩ ⟨Nat.le_of_ble_eq_true rfl, Nat.le_of_ble_eq_true rfl⟩ (by decide) rfl rfl rfl (Nat.le_of_ble_eq_true rfl) (y_length w 1 (by decide)) (?_)))
  by_cases h1 : i < 5
  · refine go_icmp_geF (tgt := 62) (eD DX3_isWord 19 rfl) rfl (by omega) (by decide) (Int.not_le.mpr h1) ?_
    refine go_aload_n (eD DX3_isWord 20 rfl) rfl rfl (go_aload_n (eD DX3_isWord 21 rfl) rfl rfl (go_getI (kz := 5) (eD DX3_isWord 22 rfl) fX3_28 (by decide) rfl rfl rfl (go_iload_n (eD DX3_isWord 23 rfl) rfl rfl (go_iadd (eD DX3_isWord 24 rfl) (go_callV (ci := 3) [(0, (w 8 5) + i)] (eD DX3_isWord 25 rfl) ⟨eMem 2 73 rfl rfl, sX3_signAt⟩ ⟨Nat.le_of_ble_eq_true rfl, Nat.le_of_ble_eq_true rfl⟩ (by decide) ⟨rfl, by decide, _, rfl, rfl⟩ rfl rfl (Nat.le_of_ble_eq_true rfl) g (go_aload_n (eD DX3_isWord 26 rfl) rfl rfl (go_iload_n (eD DX3_isWord 27 rfl) rfl rfl (go_callT [(0, i)] (eD DX3_isWord 28 rfl) ⟨eMem 2 98 rfl rfl, sJ0_charAt_5068e⟩ ⟨Nat.le_of_ble_eq_true rfl, Nat.le_of_ble_eq_true rfl⟩ (by decide) rfl rfl rfl (Nat.le_of_ble_eq_true rfl) (g2 (by assumption)) (?_)))))))))
    by_cases h2 : v = cv
    · refine go_icmp_eqT (tgt := 56) (eD DX3_isWord 29 rfl) rfl (by omega) (by omega) h2 ?_
      exact go_iinc (eD DX3_isWord 32 rfl) rfl (by decide) (go_goto (tgt := 28) (eD DX3_isWord 33 rfl) rfl (Go.pick [1, 2, 0] rfl (k1 h1 h2)))
    · refine go_icmp_eqF (tgt := 56) (eD DX3_isWord 29 rfl) rfl (by omega) (by omega) h2 ?_
      rw [(k2 h1 h2).1, (k2 h1 h2).2]
      exact go_iconst (eD DX3_isWord 30 rfl) (go_zret (eD DX3_isWord 31 rfl) rfl (by decide))
  · refine go_icmp_geT (tgt := 62) (eD DX3_isWord 19 rfl) rfl (by omega) (by decide) (Int.not_lt.mp h1) ?_
    rw [(k3 h1).1, (k3 h1).2]
    exact go_iconst (eD DX3_isWord 34 rfl) (go_zret (eD DX3_isWord 35 rfl) rfl (by decide))
set_option maxHeartbeats 4000000 in
set_option maxRecDepth 20000 in
theorem tX3_isWord112_0 {r : Option eV} {w9 : eW} (w : eW) (hp : 0 ≤ w 8 5 ∧ w 8 5 ≤ 400 ∧ 0 ≤ w 8 3 ∧ w 8 3 ≤ 400) (hk : eI (w 8 4)) (k1 : (w 8 4) = 1 → ((w 8 3) - (w 8 5)) = 4 → Go mX3_isWord 28 [(0, eR 8), (1, eR 112), (2, (0, 0))] [] w r w9) (k2 : (w 8 4) = 1 → ¬ (((w 8 3) - (w 8 5)) = 4) → r = some (0, 0) ∧ w9 = w) (k3 : ¬ ((w 8 4) = 1) → r = some (0, 0) ∧ w9 = w) : Go mX3_isWord 0 [(0, eR 8), (1, eR 112)] [] w r w9 := by
  refine go_aload_n (eD DX3_isWord 0 rfl) rfl rfl (go_getI (kz := 4) (eD DX3_isWord 1 rfl) fX3_25 (by decide) rfl rfl rfl (go_iconst (eD DX3_isWord 2 rfl) (?_)))
  by_cases h1 : (w 8 4) = 1
  · refine go_icmp_neF (tgt := 24) (eD DX3_isWord 3 rfl) rfl (show eI (w 8 4) from by omega) (by decide) (not_not_intro h1) ?_
    refine go_aload_n (eD DX3_isWord 4 rfl) rfl rfl (go_getI (kz := 3) (eD DX3_isWord 5 rfl) fX3_22 (by decide) rfl rfl rfl (go_aload_n (eD DX3_isWord 6 rfl) rfl rfl (go_getI (kz := 5) (eD DX3_isWord 7 rfl) fX3_28 (by decide) rfl rfl rfl (go_isub (eD DX3_isWord 8 rfl) (go_aload_n (eD DX3_isWord 9 rfl) rfl rfl (go_callT [] (eD DX3_isWord 10 rfl) ⟨eMem 2 88 rfl rfl, sJ0_length_8abf5⟩ ⟨Nat.le_of_ble_eq_true rfl, Nat.le_of_ble_eq_true rfl⟩ (by decide) rfl rfl rfl (Nat.le_of_ble_eq_true rfl) (y_length w 2 (by decide)) (?_)))))))
    by_cases h2 : ((w 8 3) - (w 8 5)) = 4
    · refine go_icmp_eqT (tgt := 26) (eD DX3_isWord 11 rfl) rfl (show eI ((w 8 3) - (w 8 5)) from by omega) (by decide) h2 ?_
      exact go_iconst (eD DX3_isWord 14 rfl) (go_istore_n (eD DX3_isWord 15 rfl) rfl (by decide) (Go.pick [1, 2, 0] rfl (k1 h1 h2)))
    · refine go_icmp_eqF (tgt := 26) (eD DX3_isWord 11 rfl) rfl (show eI ((w 8 3) - (w 8 5)) from by omega) (by decide) h2 ?_
      rw [(k2 h1 h2).1, (k2 h1 h2).2]
      exact go_iconst (eD DX3_isWord 12 rfl) (go_zret (eD DX3_isWord 13 rfl) rfl (by decide))
  · refine go_icmp_neT (tgt := 24) (eD DX3_isWord 3 rfl) rfl (show eI (w 8 4) from by omega) (by decide) h1 ?_
    rw [(k3 h1).1, (k3 h1).2]
    exact go_iconst (eD DX3_isWord 12 rfl) (go_zret (eD DX3_isWord 13 rfl) rfl (by decide))
set_option maxHeartbeats 4000000 in
set_option maxRecDepth 20000 in
theorem tX3_isWord112_28 {r : Option eV} {w9 : eW} (w : eW) (i : Int) {v cv : Int} (hi : 0 ≤ i ∧ i ≤ 5) (hv : -1 ≤ v ∧ v ≤ 255) (hc : 0 ≤ cv ∧ cv < 128) (g : Cal mX3_signAt [eR 8, (0, (w 8 5) + i)] w (some (0, v)) w) (g2 : i < 4 → Cal mJ0_charAt_5068e [eR 112, (0, i)] w (some (0, cv)) w) (k1 : i < 4 → v = cv → Go mX3_isWord 28 [(0, eR 8), (1, eR 112), (2, (0, i + 1))] [] w r w9) (k2 : i < 4 → ¬ (v = cv) → r = some (0, 0) ∧ w9 = w) (k3 : ¬ (i < 4) → r = some (0, 1) ∧ w9 = w) : Go mX3_isWord 28 [(0, eR 8), (1, eR 112), (2, (0, i))] [] w r w9 := by
  refine go_iload_n (eD DX3_isWord 16 rfl) rfl rfl (go_aload_n (eD DX3_isWord 17 rfl) rfl rfl (go_callT [] (eD DX3_isWord 18 rfl) ⟨eMem 2 88 rfl rfl, sJ0_length_8abf5⟩ ⟨Nat.le_of_ble_eq_true rfl, Nat.le_of_ble_eq_true rfl⟩ (by decide) rfl rfl rfl (Nat.le_of_ble_eq_true rfl) (y_length w 2 (by decide)) (?_)))
  by_cases h1 : i < 4
  · refine go_icmp_geF (tgt := 62) (eD DX3_isWord 19 rfl) rfl (by omega) (by decide) (Int.not_le.mpr h1) ?_
    refine go_aload_n (eD DX3_isWord 20 rfl) rfl rfl (go_aload_n (eD DX3_isWord 21 rfl) rfl rfl (go_getI (kz := 5) (eD DX3_isWord 22 rfl) fX3_28 (by decide) rfl rfl rfl (go_iload_n (eD DX3_isWord 23 rfl) rfl rfl (go_iadd (eD DX3_isWord 24 rfl) (go_callV (ci := 3) [(0, (w 8 5) + i)] (eD DX3_isWord 25 rfl) ⟨eMem 2 73 rfl rfl, sX3_signAt⟩ ⟨Nat.le_of_ble_eq_true rfl, Nat.le_of_ble_eq_true rfl⟩ (by decide) ⟨rfl, by decide, _, rfl, rfl⟩ rfl rfl (Nat.le_of_ble_eq_true rfl) g (go_aload_n (eD DX3_isWord 26 rfl) rfl rfl (go_iload_n (eD DX3_isWord 27 rfl) rfl rfl (go_callT [(0, i)] (eD DX3_isWord 28 rfl) ⟨eMem 2 98 rfl rfl, sJ0_charAt_5068e⟩ ⟨Nat.le_of_ble_eq_true rfl, Nat.le_of_ble_eq_true rfl⟩ (by decide) rfl rfl rfl (Nat.le_of_ble_eq_true rfl) (g2 (by assumption)) (?_)))))))))
    by_cases h2 : v = cv
    · refine go_icmp_eqT (tgt := 56) (eD DX3_isWord 29 rfl) rfl (by omega) (by omega) h2 ?_
      exact go_iinc (eD DX3_isWord 32 rfl) rfl (by decide) (go_goto (tgt := 28) (eD DX3_isWord 33 rfl) rfl (Go.pick [1, 2, 0] rfl (k1 h1 h2)))
    · refine go_icmp_eqF (tgt := 56) (eD DX3_isWord 29 rfl) rfl (by omega) (by omega) h2 ?_
      rw [(k2 h1 h2).1, (k2 h1 h2).2]
      exact go_iconst (eD DX3_isWord 30 rfl) (go_zret (eD DX3_isWord 31 rfl) rfl (by decide))
  · refine go_icmp_geT (tgt := 62) (eD DX3_isWord 19 rfl) rfl (by omega) (by decide) (Int.not_lt.mp h1) ?_
    rw [(k3 h1).1, (k3 h1).2]
    exact go_iconst (eD DX3_isWord 34 rfl) (go_zret (eD DX3_isWord 35 rfl) rfl (by decide))
set_option maxHeartbeats 4000000 in
set_option maxRecDepth 20000 in
theorem tX3_readComma_0 {r : Option eV} {w9 : eW} (w : eW) {w1 : eW} (hk : eI (w1 8 4)) (g : Cal mX3_advance [eR 8] w none w1) (k1 : (w1 8 4) = 44 → r = some (0, 1) ∧ w9 = w1) (k2 : ¬ ((w1 8 4) = 44) → r = some (0, 0) ∧ w9 = (eU (eU w1 8 7 1) 8 8 (w1 8 5))) : Go mX3_readComma 0 [(0, eR 8)] [] w r w9 := by
  refine go_aload_n (eD DX3_readComma 0 rfl) rfl rfl (go_callV (ci := 3) [] (eD DX3_readComma 1 rfl) ⟨eMem 2 69 rfl rfl, sX3_advance⟩ ⟨Nat.le_of_ble_eq_true rfl, Nat.le_of_ble_eq_true rfl⟩ (by decide) ⟨rfl, by decide, _, rfl, rfl⟩ rfl rfl (Nat.le_of_ble_eq_true rfl) g (go_aload_n (eD DX3_readComma 2 rfl) rfl rfl (go_getI (kz := 4) (eD DX3_readComma 3 rfl) fX3_25 (by decide) rfl rfl rfl (go_bipush (eD DX3_readComma 4 rfl) (by decide) (?_)))))
  by_cases h1 : (w1 8 4) = 44
  · refine go_icmp_eqT (tgt := 21) (eD DX3_readComma 5 rfl) rfl (by omega) (by decide) h1 ?_
    rw [(k1 h1).1, (k1 h1).2]
    exact go_iconst (eD DX3_readComma 10 rfl) (go_goto (tgt := 26) (eD DX3_readComma 11 rfl) rfl (go_zret (eD DX3_readComma 13 rfl) rfl (by decide)))
  · refine go_icmp_eqF (tgt := 21) (eD DX3_readComma 5 rfl) rfl (by omega) (by decide) h1 ?_
    refine go_aload_n (eD DX3_readComma 6 rfl) rfl rfl (go_iconst (eD DX3_readComma 7 rfl) (?_))
    refine go_callV (ci := 3) [(0, 1)] (eD DX3_readComma 8 rfl) ⟨eMem 2 136 rfl rfl, sX3_fail⟩ ⟨Nat.le_of_ble_eq_true rfl, Nat.le_of_ble_eq_true rfl⟩ (by decide) ⟨rfl, by decide, _, rfl, rfl⟩ rfl rfl (Nat.le_of_ble_eq_true rfl) (Cal.as (zX3_fail w1 1  ) (r2 := some (0, 0)) (w2 := (eU (eU w1 8 7 1) 8 8 (w1 8 5))) (by (try simp only [rX3_fail, if_neg h1]) <;> (try rfl)) (by (try simp only [wX3_fail, if_neg h1]) <;> (try rfl))) (?_)
    refine go_if_eqT (tgt := 25) (eD DX3_readComma 9 rfl) rfl (by decide) (show (0 : Int) = 0 from by decide) (?_)
    rw [(k2 h1).1, (k2 h1).2]
    exact go_iconst (eD DX3_readComma 12 rfl) (go_zret (eD DX3_readComma 13 rfl) rfl (by decide))
set_option maxHeartbeats 4000000 in
set_option maxRecDepth 20000 in
theorem tX3_readWhole_0 {r : Option eV} {w9 : eW} (w : eW) (a b : Int) {w1 : eW} {v : Int} (ha : eI a) (hb : eI b) (hk : eI (w1 8 4)) (hv : eI v) (g : Cal mX3_advance [eR 8] w none w1) (g2 : w1 8 4 = 2 → Cal mX3_wholeValue [eR 8] w1 (some (0, v)) w1) (k1 : (w1 8 4) = 2 → v < a → r = some (0, 0) ∧ w9 = (eU (eU w1 8 7 2) 8 8 (w1 8 5))) (k2 : (w1 8 4) = 2 → ¬ (v < a) → b < v → r = some (0, 0) ∧ w9 = (eU (eU w1 8 7 2) 8 8 (w1 8 5))) (k3 : (w1 8 4) = 2 → ¬ (v < a) → ¬ (b < v) → r = some (0, 1) ∧ w9 = w1) (k4 : ¬ ((w1 8 4) = 2) → r = some (0, 0) ∧ w9 = (eU (eU w1 8 7 1) 8 8 (w1 8 5))) : Go mX3_readWhole 0 [(0, eR 8), (1, (0, a)), (2, (0, b))] [] w r w9 := by
  refine go_aload_n (eD DX3_readWhole 0 rfl) rfl rfl (go_callV (ci := 3) [] (eD DX3_readWhole 1 rfl) ⟨eMem 2 69 rfl rfl, sX3_advance⟩ ⟨Nat.le_of_ble_eq_true rfl, Nat.le_of_ble_eq_true rfl⟩ (by decide) ⟨rfl, by decide, _, rfl, rfl⟩ rfl rfl (Nat.le_of_ble_eq_true rfl) g (go_aload_n (eD DX3_readWhole 2 rfl) rfl rfl (go_getI (kz := 4) (eD DX3_readWhole 3 rfl) fX3_25 (by decide) rfl rfl rfl (go_iconst (eD DX3_readWhole 4 rfl) (?_)))))
  by_cases h1 : (w1 8 4) = 2
  · refine go_icmp_eqT (tgt := 18) (eD DX3_readWhole 5 rfl) rfl (by omega) (by decide) h1 ?_
    refine go_aload_n (eD DX3_readWhole 10 rfl) rfl rfl (go_callV (ci := 3) [] (eD DX3_readWhole 11 rfl) ⟨eMem 2 169 rfl rfl, sX3_wholeValue⟩ ⟨Nat.le_of_ble_eq_true rfl, Nat.le_of_ble_eq_true rfl⟩ (by decide) ⟨rfl, by decide, _, rfl, rfl⟩ rfl rfl (Nat.le_of_ble_eq_true rfl) (g2 (by assumption)) (go_istore_n (eD DX3_readWhole 12 rfl) rfl (by decide) (go_iload_n (eD DX3_readWhole 13 rfl) rfl rfl (go_iload_n (eD DX3_readWhole 14 rfl) rfl rfl (?_)))))
    by_cases h2 : v < a
    · refine go_icmp_ltT (tgt := 33) (eD DX3_readWhole 15 rfl) rfl (by omega) (by omega) h2 ?_
      refine go_aload_n (eD DX3_readWhole 19 rfl) rfl rfl (go_iconst (eD DX3_readWhole 20 rfl) (?_))
      refine go_callV (ci := 3) [(0, 2)] (eD DX3_readWhole 21 rfl) ⟨eMem 2 136 rfl rfl, sX3_fail⟩ ⟨Nat.le_of_ble_eq_true rfl, Nat.le_of_ble_eq_true rfl⟩ (by decide) ⟨rfl, by decide, _, rfl, rfl⟩ rfl rfl (Nat.le_of_ble_eq_true rfl) (Cal.as (zX3_fail w1 2  ) (r2 := some (0, 0)) (w2 := (eU (eU w1 8 7 2) 8 8 (w1 8 5))) (by (try simp only [rX3_fail, if_pos h1, if_pos h2]) <;> (try rfl)) (by (try simp only [wX3_fail, if_pos h1, if_pos h2]) <;> (try rfl))) (?_)
      refine go_if_eqT (tgt := 45) (eD DX3_readWhole 22 rfl) rfl (by decide) (show (0 : Int) = 0 from by decide) (?_)
      rw [(k1 h1 h2).1, (k1 h1 h2).2]
      exact go_iconst (eD DX3_readWhole 25 rfl) (go_zret (eD DX3_readWhole 26 rfl) rfl (by decide))
    · refine go_icmp_ltF (tgt := 33) (eD DX3_readWhole 15 rfl) rfl (by omega) (by omega) h2 ?_
      refine go_iload_n (eD DX3_readWhole 16 rfl) rfl rfl (go_iload_n (eD DX3_readWhole 17 rfl) rfl rfl (?_))
      by_cases h3 : b < v
      · refine go_icmp_leF (tgt := 41) (eD DX3_readWhole 18 rfl) rfl (by omega) (by omega) (Int.not_le.mpr h3) ?_
        refine go_aload_n (eD DX3_readWhole 19 rfl) rfl rfl (go_iconst (eD DX3_readWhole 20 rfl) (?_))
        refine go_callV (ci := 3) [(0, 2)] (eD DX3_readWhole 21 rfl) ⟨eMem 2 136 rfl rfl, sX3_fail⟩ ⟨Nat.le_of_ble_eq_true rfl, Nat.le_of_ble_eq_true rfl⟩ (by decide) ⟨rfl, by decide, _, rfl, rfl⟩ rfl rfl (Nat.le_of_ble_eq_true rfl) (Cal.as (zX3_fail w1 2  ) (r2 := some (0, 0)) (w2 := (eU (eU w1 8 7 2) 8 8 (w1 8 5))) (by (try simp only [rX3_fail, if_pos h1, if_neg h2, if_pos h3]) <;> (try rfl)) (by (try simp only [wX3_fail, if_pos h1, if_neg h2, if_pos h3]) <;> (try rfl))) (?_)
        refine go_if_eqT (tgt := 45) (eD DX3_readWhole 22 rfl) rfl (by decide) (show (0 : Int) = 0 from by decide) (?_)
        rw [(k2 h1 h2 h3).1, (k2 h1 h2 h3).2]
        exact go_iconst (eD DX3_readWhole 25 rfl) (go_zret (eD DX3_readWhole 26 rfl) rfl (by decide))
      · refine go_icmp_leT (tgt := 41) (eD DX3_readWhole 18 rfl) rfl (by omega) (by omega) (Int.not_lt.mp h3) ?_
        rw [(k3 h1 h2 h3).1, (k3 h1 h2 h3).2]
        exact go_iconst (eD DX3_readWhole 23 rfl) (go_goto (tgt := 46) (eD DX3_readWhole 24 rfl) rfl (go_zret (eD DX3_readWhole 26 rfl) rfl (by decide)))
  · refine go_icmp_eqF (tgt := 18) (eD DX3_readWhole 5 rfl) rfl (by omega) (by decide) h1 ?_
    refine go_aload_n (eD DX3_readWhole 6 rfl) rfl rfl (go_iconst (eD DX3_readWhole 7 rfl) (?_))
    refine go_callV (ci := 3) [(0, 1)] (eD DX3_readWhole 8 rfl) ⟨eMem 2 136 rfl rfl, sX3_fail⟩ ⟨Nat.le_of_ble_eq_true rfl, Nat.le_of_ble_eq_true rfl⟩ (by decide) ⟨rfl, by decide, _, rfl, rfl⟩ rfl rfl (Nat.le_of_ble_eq_true rfl) (Cal.as (zX3_fail w1 1  ) (r2 := some (0, 0)) (w2 := (eU (eU w1 8 7 1) 8 8 (w1 8 5))) (by (try simp only [rX3_fail, if_neg h1]) <;> (try rfl)) (by (try simp only [wX3_fail, if_neg h1]) <;> (try rfl))) (?_)
    rw [(k4 h1).1, (k4 h1).2]
    exact go_zret (eD DX3_readWhole 9 rfl) rfl (by decide)
set_option maxHeartbeats 4000000 in
set_option maxRecDepth 20000 in
theorem tX3_readRow_0 {r : Option eV} {w9 : eW} (w : eW) (hk : eI (w 8 4)) (hp : 0 ≤ w 8 5 ∧ w 8 5 ≤ 400 ∧ 0 ≤ w 8 3 ∧ w 8 3 ≤ 400) (hd : 0 ≤ w 9 0 ∧ w 9 0 ≤ 14 ∧ 0 ≤ w 9 1 ∧ w 9 1 ≤ 10) (k1 : (w 8 4) = 1 → 0 < (w 9 1) → ((w 8 3) - (w 8 5)) = (w 9 0) → Go mX3_readRow 55 [(0, eR 8), (1, (0, (w 8 3) - (w 8 5))), (2, (0, 0)), (3, (0, 0))] [] w r w9) (k2 : (w 8 4) = 1 → 0 < (w 9 1) → ¬ (((w 8 3) - (w 8 5)) = (w 9 0)) → r = some (0, 0) ∧ w9 = (eU (eU w 8 7 2) 8 8 (w 8 5))) (k3 : (w 8 4) = 1 → ¬ (0 < (w 9 1)) → Go mX3_readRow 55 [(0, eR 8), (1, (0, (w 8 3) - (w 8 5))), (2, (0, 0)), (3, (0, 0))] [] w r w9) (k4 : ¬ ((w 8 4) = 1) → r = some (0, 0) ∧ w9 = (eU (eU w 8 7 1) 8 8 (w 8 5))) : Go mX3_readRow 0 [(0, eR 8)] [] w r w9 := by
  refine go_aload_n (eD DX3_readRow 0 rfl) rfl rfl (go_getI (kz := 4) (eD DX3_readRow 1 rfl) fX3_25 (by decide) rfl rfl rfl (go_iconst (eD DX3_readRow 2 rfl) (?_)))
  by_cases h1 : (w 8 4) = 1
  · refine go_icmp_eqT (tgt := 14) (eD DX3_readRow 3 rfl) rfl (show eI (w 8 4) from by omega) (by decide) h1 ?_
    refine go_aload_n (eD DX3_readRow 8 rfl) rfl rfl (go_getI (kz := 3) (eD DX3_readRow 9 rfl) fX3_22 (by decide) rfl rfl rfl (go_aload_n (eD DX3_readRow 10 rfl) rfl rfl (go_getI (kz := 5) (eD DX3_readRow 11 rfl) fX3_28 (by decide) rfl rfl rfl (go_isub (eD DX3_readRow 12 rfl) (go_istore_n (eD DX3_readRow 13 rfl) rfl (by decide) (go_aload_n (eD DX3_readRow 14 rfl) rfl rfl (go_getR (t := 9) (eD DX3_readRow 15 rfl) fX3_12 (by decide) rfl ⟨rfl, rfl⟩ (go_getI (kz := 1) (eD DX3_readRow 16 rfl) fX3_88 (by decide) rfl rfl rfl (?_)))))))))
    by_cases h2 : 0 < (w 9 1)
    · refine go_if_leF (tgt := 51) (eD DX3_readRow 17 rfl) rfl (show eI (w 9 1) from by omega) (Int.not_le.mpr h2) ?_
      refine go_iload_n (eD DX3_readRow 18 rfl) rfl rfl (go_aload_n (eD DX3_readRow 19 rfl) rfl rfl (go_getR (t := 9) (eD DX3_readRow 20 rfl) fX3_12 (by decide) rfl ⟨rfl, rfl⟩ (go_getI (kz := 0) (eD DX3_readRow 21 rfl) fX3_91 (by decide) rfl rfl rfl (?_))))
      by_cases h3 : ((w 8 3) - (w 8 5)) = (w 9 0)
      · refine go_icmp_eqT (tgt := 51) (eD DX3_readRow 22 rfl) rfl (show eI ((w 8 3) - (w 8 5)) from by omega) (show eI (w 9 0) from by omega) h3 ?_
        exact go_iconst (eD DX3_readRow 27 rfl) (go_istore_n (eD DX3_readRow 28 rfl) rfl (by decide) (go_iconst (eD DX3_readRow 29 rfl) (go_istore_n (eD DX3_readRow 30 rfl) rfl (by decide) (Go.pick [3, 2, 1, 0] rfl (k1 h1 h2 h3)))))
      · refine go_icmp_eqF (tgt := 51) (eD DX3_readRow 22 rfl) rfl (show eI ((w 8 3) - (w 8 5)) from by omega) (show eI (w 9 0) from by omega) h3 ?_
        refine go_aload_n (eD DX3_readRow 23 rfl) rfl rfl (go_iconst (eD DX3_readRow 24 rfl) (?_))
        refine go_callV (ci := 3) [(0, 2)] (eD DX3_readRow 25 rfl) ⟨eMem 2 136 rfl rfl, sX3_fail⟩ ⟨Nat.le_of_ble_eq_true rfl, Nat.le_of_ble_eq_true rfl⟩ (by decide) ⟨rfl, by decide, _, rfl, rfl⟩ rfl rfl (Nat.le_of_ble_eq_true rfl) (Cal.as (zX3_fail w 2  ) (r2 := some (0, 0)) (w2 := (eU (eU w 8 7 2) 8 8 (w 8 5))) (by (try simp only [rX3_fail, if_pos h1, if_pos h2, if_neg h3]) <;> (try rfl)) (by (try simp only [wX3_fail, if_pos h1, if_pos h2, if_neg h3]) <;> (try rfl))) (?_)
        rw [(k2 h1 h2 h3).1, (k2 h1 h2 h3).2]
        exact go_zret (eD DX3_readRow 26 rfl) rfl (by decide)
    · refine go_if_leT (tgt := 51) (eD DX3_readRow 17 rfl) rfl (show eI (w 9 1) from by omega) (Int.not_lt.mp h2) ?_
      exact go_iconst (eD DX3_readRow 27 rfl) (go_istore_n (eD DX3_readRow 28 rfl) rfl (by decide) (go_iconst (eD DX3_readRow 29 rfl) (go_istore_n (eD DX3_readRow 30 rfl) rfl (by decide) (Go.pick [3, 2, 1, 0] rfl (k3 h1 h2)))))
  · refine go_icmp_eqF (tgt := 14) (eD DX3_readRow 3 rfl) rfl (show eI (w 8 4) from by omega) (by decide) h1 ?_
    refine go_aload_n (eD DX3_readRow 4 rfl) rfl rfl (go_iconst (eD DX3_readRow 5 rfl) (?_))
    refine go_callV (ci := 3) [(0, 1)] (eD DX3_readRow 6 rfl) ⟨eMem 2 136 rfl rfl, sX3_fail⟩ ⟨Nat.le_of_ble_eq_true rfl, Nat.le_of_ble_eq_true rfl⟩ (by decide) ⟨rfl, by decide, _, rfl, rfl⟩ rfl rfl (Nat.le_of_ble_eq_true rfl) (Cal.as (zX3_fail w 1  ) (r2 := some (0, 0)) (w2 := (eU (eU w 8 7 1) 8 8 (w 8 5))) (by (try simp only [rX3_fail, if_neg h1]) <;> (try rfl)) (by (try simp only [wX3_fail, if_neg h1]) <;> (try rfl))) (?_)
    rw [(k4 h1).1, (k4 h1).2]
    exact go_zret (eD DX3_readRow 7 rfl) rfl (by decide)
set_option maxHeartbeats 4000000 in
set_option maxRecDepth 20000 in
theorem tX3_readRow_55 {r : Option eV} {w9 : eW} (w : eW) (sz b x : Int) {v : Int} (hx : 0 ≤ x ∧ x ≤ 14 ∧ 0 ≤ sz ∧ sz ≤ 14) (hv : -1 ≤ v ∧ v ≤ 255) (g : Cal mX3_signAt [eR 8, (0, (w 8 5) + x)] w (some (0, v)) w) (k1 : x < sz → v = 120 → Go mX3_readRow 55 [(0, eR 8), (1, (0, sz)), (2, (0, eOr b (1 * 2 ^ (x).toNat))), (3, (0, x + 1))] [] w r w9) (k2 : x < sz → ¬ (v = 120) → v = 111 → Go mX3_readRow 55 [(0, eR 8), (1, (0, sz)), (2, (0, eOr b 0)), (3, (0, x + 1))] [] w r w9) (k3 : x < sz → ¬ (v = 120) → ¬ (v = 111) → r = some (0, 0) ∧ w9 = (eU (eU w 8 7 2) 8 8 (w 8 5))) (k4 : ¬ (x < sz) → Go mX3_readRow 115 [(0, eR 8), (1, (0, sz)), (2, (0, b))] [] w r w9) : Go mX3_readRow 55 [(0, eR 8), (1, (0, sz)), (2, (0, b)), (3, (0, x))] [] w r w9 := by
  refine go_iload_n (eD DX3_readRow 31 rfl) rfl rfl (go_iload_n (eD DX3_readRow 32 rfl) rfl rfl (?_))
  by_cases h1 : x < sz
  · refine go_icmp_geF (tgt := 115) (eD DX3_readRow 33 rfl) rfl (by omega) (by omega) (Int.not_le.mpr h1) ?_
    refine go_aload_n (eD DX3_readRow 34 rfl) rfl rfl (go_aload_n (eD DX3_readRow 35 rfl) rfl rfl (go_getI (kz := 5) (eD DX3_readRow 36 rfl) fX3_28 (by decide) rfl rfl rfl (go_iload_n (eD DX3_readRow 37 rfl) rfl rfl (go_iadd (eD DX3_readRow 38 rfl) (go_callV (ci := 3) [(0, (w 8 5) + x)] (eD DX3_readRow 39 rfl) ⟨eMem 2 73 rfl rfl, sX3_signAt⟩ ⟨Nat.le_of_ble_eq_true rfl, Nat.le_of_ble_eq_true rfl⟩ (by decide) ⟨rfl, by decide, _, rfl, rfl⟩ rfl rfl (Nat.le_of_ble_eq_true rfl) g (go_istore (eD DX3_readRow 40 rfl) (by decide) (go_iload (eD DX3_readRow 41 rfl) rfl (go_bipush (eD DX3_readRow 42 rfl) (by decide) (?_)))))))))
    by_cases h2 : v = 120
    · refine go_icmp_eqT (tgt := 92) (eD DX3_readRow 43 rfl) rfl (by omega) (by decide) h2 ?_
      refine go_iload_n (eD DX3_readRow 51 rfl) rfl rfl (go_iload (eD DX3_readRow 52 rfl) rfl (go_bipush (eD DX3_readRow 53 rfl) (by decide) (go_icmp_neF (tgt := 106) (eD DX3_readRow 54 rfl) rfl (by omega) (by decide) (not_not_intro h2) (?_))))
      exact go_iconst (eD DX3_readRow 55 rfl) (go_iload_n (eD DX3_readRow 56 rfl) rfl rfl (go_ishl (eD DX3_readRow 57 rfl) (by omega) (go_goto (tgt := 107) (eD DX3_readRow 58 rfl) rfl (go_ior (eD DX3_readRow 60 rfl) (go_istore_n (eD DX3_readRow 61 rfl) rfl (by decide) (go_iinc (eD DX3_readRow 62 rfl) rfl (by decide) (go_goto (tgt := 55) (eD DX3_readRow 63 rfl) rfl (Go.pick [3, 4, 1, 0] rfl (k1 h1 h2)))))))))
    · refine go_icmp_eqF (tgt := 92) (eD DX3_readRow 43 rfl) rfl (by omega) (by decide) h2 ?_
      refine go_iload (eD DX3_readRow 44 rfl) rfl (go_bipush (eD DX3_readRow 45 rfl) (by decide) (?_))
      by_cases h3 : v = 111
      · refine go_icmp_eqT (tgt := 92) (eD DX3_readRow 46 rfl) rfl (by omega) (by decide) h3 ?_
        refine go_iload_n (eD DX3_readRow 51 rfl) rfl rfl (go_iload (eD DX3_readRow 52 rfl) rfl (go_bipush (eD DX3_readRow 53 rfl) (by decide) (go_icmp_neT (tgt := 106) (eD DX3_readRow 54 rfl) rfl (by omega) (by decide) h2 (?_))))
        exact go_iconst (eD DX3_readRow 59 rfl) (go_ior (eD DX3_readRow 60 rfl) (go_istore_n (eD DX3_readRow 61 rfl) rfl (by decide) (go_iinc (eD DX3_readRow 62 rfl) rfl (by decide) (go_goto (tgt := 55) (eD DX3_readRow 63 rfl) rfl (Go.pick [3, 4, 1, 0] rfl (k2 h1 h2 h3))))))
      · refine go_icmp_eqF (tgt := 92) (eD DX3_readRow 46 rfl) rfl (by omega) (by decide) h3 ?_
        refine go_aload_n (eD DX3_readRow 47 rfl) rfl rfl (go_iconst (eD DX3_readRow 48 rfl) (?_))
        refine go_callV (ci := 3) [(0, 2)] (eD DX3_readRow 49 rfl) ⟨eMem 2 136 rfl rfl, sX3_fail⟩ ⟨Nat.le_of_ble_eq_true rfl, Nat.le_of_ble_eq_true rfl⟩ (by decide) ⟨rfl, by decide, _, rfl, rfl⟩ rfl rfl (Nat.le_of_ble_eq_true rfl) (Cal.as (zX3_fail w 2  ) (r2 := some (0, 0)) (w2 := (eU (eU w 8 7 2) 8 8 (w 8 5))) (by (try simp only [rX3_fail, if_pos h1, if_neg h2, if_neg h3]) <;> (try rfl)) (by (try simp only [wX3_fail, if_pos h1, if_neg h2, if_neg h3]) <;> (try rfl))) (?_)
        rw [(k3 h1 h2 h3).1, (k3 h1 h2 h3).2]
        exact go_zret (eD DX3_readRow 50 rfl) rfl (by decide)
  · refine go_icmp_geT (tgt := 115) (eD DX3_readRow 33 rfl) rfl (by omega) (by omega) (Int.not_lt.mp h1) ?_
    exact Go.pick [0, 1, 2] rfl (k4 h1)
set_option maxHeartbeats 4000000 in
set_option maxRecDepth 20000 in
theorem tX3_readRow_115 {r : Option eV} {w9 : eW} (w : eW) (sz b : Int) (hd : 0 ≤ w 9 1 ∧ w 9 1 ≤ 10) (k1 : (w 9 1) < 10 → (w 9 1) < 0 → r = some (0, 1) ∧ w9 = (eU (eU w 9 0 sz) 9 1 ((w 9 1) + 1))) (k2 : (w 9 1) < 10 → ¬ ((w 9 1) < 0) → r = some (0, 1) ∧ w9 = (eU (eU (eU w 9 0 sz) 10 (w 9 1) b) 9 1 ((w 9 1) + 1))) (k3 : ¬ ((w 9 1) < 10) → r = some (0, 0) ∧ w9 = (eU (eU w 8 7 4) 8 8 (w 8 5))) : Go mX3_readRow 115 [(0, eR 8), (1, (0, sz)), (2, (0, b))] [] w r w9 := by
  refine go_aload_n (eD DX3_readRow 64 rfl) rfl rfl (go_getR (t := 9) (eD DX3_readRow 65 rfl) fX3_12 (by decide) rfl ⟨rfl, rfl⟩ (go_getI (kz := 1) (eD DX3_readRow 66 rfl) fX3_88 (by decide) rfl rfl rfl (go_bipush (eD DX3_readRow 67 rfl) (by decide) (?_))))
  by_cases h1 : (w 9 1) < 10
  · refine go_icmp_ltT (tgt := 133) (eD DX3_readRow 68 rfl) rfl (show eI (w 9 1) from by omega) (by decide) h1 ?_
    refine go_aload_n (eD DX3_readRow 73 rfl) rfl rfl (go_getR (t := 9) (eD DX3_readRow 74 rfl) fX3_12 (by decide) rfl ⟨rfl, rfl⟩ (go_iload_n (eD DX3_readRow 75 rfl) rfl rfl (go_putI (kz := 0) (eD DX3_readRow 76 rfl) fX3_91 (by decide) rfl rfl (fun q h => by cases h; exact ⟨rfl, rfl⟩) rfl (go_aload_n (eD DX3_readRow 77 rfl) rfl rfl (go_getR (t := 9) (eD DX3_readRow 78 rfl) fX3_12 (by decide) rfl ⟨rfl, rfl⟩ (go_aload_n (eD DX3_readRow 79 rfl) rfl rfl (go_getR (t := 9) (eD DX3_readRow 80 rfl) fX3_12 (by decide) rfl ⟨rfl, rfl⟩ (go_getI (kz := 1) (eD DX3_readRow 81 rfl) fX3_88 (by decide) rfl rfl rfl (go_iload_n (eD DX3_readRow 82 rfl) rfl rfl (?_))))))))))
    by_cases h2 : (w 9 1) < 0
    · refine go_callV (ci := 0) [(0, w 9 1), (0, b)] (eD DX3_readRow 83 rfl) ⟨eMem 2 148 rfl rfl, sX0_setLine⟩ ⟨Nat.le_of_ble_eq_true rfl, Nat.le_of_ble_eq_true rfl⟩ (by decide) ⟨rfl, by decide, _, rfl, rfl⟩ rfl rfl (Nat.le_of_ble_eq_true rfl) (Cal.as (zX0_setLine9 (eU w 9 0 sz) (w 9 1) b (show eI (w 9 1) from by omega) ) (r2 := none) (w2 := (eU w 9 0 sz)) rfl (by (try simp only [wX0_setLine9, if_pos h1, if_pos h2]) <;> (try rfl))) (?_)
      rw [(k1 h1 h2).1, (k1 h1 h2).2]
      exact go_aload_n (eD DX3_readRow 84 rfl) rfl rfl (go_getR (t := 9) (eD DX3_readRow 85 rfl) fX3_12 (by decide) rfl ⟨rfl, rfl⟩ (go_dup (eD DX3_readRow 86 rfl) (by decide) (go_getI (kz := 1) (eD DX3_readRow 87 rfl) fX3_88 (by decide) rfl rfl rfl (go_iconst (eD DX3_readRow 88 rfl) (go_iadd (eD DX3_readRow 89 rfl) (go_putI (kz := 1) (eD DX3_readRow 90 rfl) fX3_88 (by decide) rfl rfl (fun q h => by cases h; exact ⟨rfl, rfl⟩) rfl (go_iconst (eD DX3_readRow 91 rfl) (go_zret (eD DX3_readRow 92 rfl) rfl (by decide)))))))))
    · refine go_callV (ci := 0) [(0, w 9 1), (0, b)] (eD DX3_readRow 83 rfl) ⟨eMem 2 148 rfl rfl, sX0_setLine⟩ ⟨Nat.le_of_ble_eq_true rfl, Nat.le_of_ble_eq_true rfl⟩ (by decide) ⟨rfl, by decide, _, rfl, rfl⟩ rfl rfl (Nat.le_of_ble_eq_true rfl) (Cal.as (zX0_setLine9 (eU w 9 0 sz) (w 9 1) b (show eI (w 9 1) from by omega) ) (r2 := none) (w2 := (eU (eU w 9 0 sz) 10 (w 9 1) b)) rfl (by (try simp only [wX0_setLine9, if_pos h1, if_neg h2]) <;> (try rfl))) (?_)
      rw [(k2 h1 h2).1, (k2 h1 h2).2]
      exact go_aload_n (eD DX3_readRow 84 rfl) rfl rfl (go_getR (t := 9) (eD DX3_readRow 85 rfl) fX3_12 (by decide) rfl ⟨rfl, rfl⟩ (go_dup (eD DX3_readRow 86 rfl) (by decide) (go_getI (kz := 1) (eD DX3_readRow 87 rfl) fX3_88 (by decide) rfl rfl rfl (go_iconst (eD DX3_readRow 88 rfl) (go_iadd (eD DX3_readRow 89 rfl) (go_putI (kz := 1) (eD DX3_readRow 90 rfl) fX3_88 (by decide) rfl rfl (fun q h => by cases h; exact ⟨rfl, rfl⟩) rfl (go_iconst (eD DX3_readRow 91 rfl) (go_zret (eD DX3_readRow 92 rfl) rfl (by decide)))))))))
  · refine go_icmp_ltF (tgt := 133) (eD DX3_readRow 68 rfl) rfl (show eI (w 9 1) from by omega) (by decide) h1 ?_
    refine go_aload_n (eD DX3_readRow 69 rfl) rfl rfl (go_iconst (eD DX3_readRow 70 rfl) (?_))
    refine go_callV (ci := 3) [(0, 4)] (eD DX3_readRow 71 rfl) ⟨eMem 2 136 rfl rfl, sX3_fail⟩ ⟨Nat.le_of_ble_eq_true rfl, Nat.le_of_ble_eq_true rfl⟩ (by decide) ⟨rfl, by decide, _, rfl, rfl⟩ rfl rfl (Nat.le_of_ble_eq_true rfl) (Cal.as (zX3_fail w 4  ) (r2 := some (0, 0)) (w2 := (eU (eU w 8 7 4) 8 8 (w 8 5))) (by (try simp only [rX3_fail, if_neg h1]) <;> (try rfl)) (by (try simp only [wX3_fail, if_neg h1]) <;> (try rfl))) (?_)
    rw [(k3 h1).1, (k3 h1).2]
    exact go_zret (eD DX3_readRow 72 rfl) rfl (by decide)
set_option maxHeartbeats 4000000 in
set_option maxRecDepth 20000 in
theorem tX3_readRows_0 {r : Option eV} {w9 : eW} (w : eW) {w1 w2 w3 : eW} {ok : Int} (hok : 0 ≤ ok ∧ ok ≤ 1) (g1 : Cal mX3_advance [eR 8] w none w1) (g2 : Cal mX3_readRow [eR 8] w1 (some (0, ok)) w2) (g3 : ¬ ok = 0 → Cal mX3_advance [eR 8] w2 none w3) (k1 : ok = 0 → r = some (0, 0) ∧ w9 = w2) (k2 : ¬ (ok = 0) → Go mX3_readRows 19 [(0, eR 8), (1, (0, 0))] [] w3 r w9) : Go mX3_readRows 0 [(0, eR 8)] [] w r w9 := by
  refine go_aload_n (eD DX3_readRows 0 rfl) rfl rfl (go_callV (ci := 3) [] (eD DX3_readRows 1 rfl) ⟨eMem 2 69 rfl rfl, sX3_advance⟩ ⟨Nat.le_of_ble_eq_true rfl, Nat.le_of_ble_eq_true rfl⟩ (by decide) ⟨rfl, by decide, _, rfl, rfl⟩ rfl rfl (Nat.le_of_ble_eq_true rfl) g1 (go_aload_n (eD DX3_readRows 2 rfl) rfl rfl (go_callV (ci := 3) [] (eD DX3_readRows 3 rfl) ⟨eMem 2 144 rfl rfl, sX3_readRow⟩ ⟨Nat.le_of_ble_eq_true rfl, Nat.le_of_ble_eq_true rfl⟩ (by decide) ⟨rfl, by decide, _, rfl, rfl⟩ rfl rfl (Nat.le_of_ble_eq_true rfl) g2 (?_))))
  by_cases h1 : ok = 0
  · refine go_if_neF (tgt := 13) (eD DX3_readRows 4 rfl) rfl (by omega) (not_not_intro h1) ?_
    rw [(k1 h1).1, (k1 h1).2]
    exact go_iconst (eD DX3_readRows 5 rfl) (go_zret (eD DX3_readRows 6 rfl) rfl (by decide))
  · refine go_if_neT (tgt := 13) (eD DX3_readRows 4 rfl) rfl (by omega) h1 ?_
    exact go_aload_n (eD DX3_readRows 7 rfl) rfl rfl (go_callV (ci := 3) [] (eD DX3_readRows 8 rfl) ⟨eMem 2 69 rfl rfl, sX3_advance⟩ ⟨Nat.le_of_ble_eq_true rfl, Nat.le_of_ble_eq_true rfl⟩ (by decide) ⟨rfl, by decide, _, rfl, rfl⟩ rfl rfl (Nat.le_of_ble_eq_true rfl) (g3 (by assumption)) (go_iconst (eD DX3_readRows 9 rfl) (go_istore_n (eD DX3_readRows 10 rfl) rfl (by decide) (Go.pick [1, 0] rfl (k2 h1)))))
set_option maxHeartbeats 4000000 in
set_option maxRecDepth 20000 in
theorem tX3_readRows_19 {r : Option eV} {w9 : eW} (w : eW) (i : Int) {w1 w2 w3 : eW} {ok : Int} (hi : 0 ≤ i ∧ i ≤ 401) (hk : eI (w 8 4)) (hok : 0 ≤ ok ∧ ok ≤ 1) (g1 : w 8 4 = 47 → Cal mX3_advance [eR 8] w none w1) (g2 : w 8 4 = 47 → Cal mX3_readRow [eR 8] w1 (some (0, ok)) w2) (g3 : w 8 4 = 47 → ¬ ok = 0 → Cal mX3_advance [eR 8] w2 none w3) (k1 : 400 < i → r = some (0, 1) ∧ w9 = w) (k2 : ¬ (400 < i) → (w 8 4) = 47 → ok = 0 → r = some (0, 0) ∧ w9 = w2) (k3 : ¬ (400 < i) → (w 8 4) = 47 → ¬ (ok = 0) → Go mX3_readRows 19 [(0, eR 8), (1, (0, i + 1))] [] w3 r w9) (k4 : ¬ (400 < i) → ¬ ((w 8 4) = 47) → r = some (0, 1) ∧ w9 = w) : Go mX3_readRows 19 [(0, eR 8), (1, (0, i))] [] w r w9 := by
  refine go_iload_n (eD DX3_readRows 11 rfl) rfl rfl (go_sipush (eD DX3_readRows 12 rfl) (by decide) (?_))
  by_cases h1 : 400 < i
  · refine go_icmp_gtT (tgt := 58) (eD DX3_readRows 13 rfl) rfl (by omega) (by decide) h1 ?_
    rw [(k1 h1).1, (k1 h1).2]
    exact go_iconst (eD DX3_readRows 29 rfl) (go_zret (eD DX3_readRows 30 rfl) rfl (by decide))
  · refine go_icmp_gtF (tgt := 58) (eD DX3_readRows 13 rfl) rfl (by omega) (by decide) h1 ?_
    refine go_aload_n (eD DX3_readRows 14 rfl) rfl rfl (go_getI (kz := 4) (eD DX3_readRows 15 rfl) fX3_25 (by decide) rfl rfl rfl (go_bipush (eD DX3_readRows 16 rfl) (by decide) (?_)))
    by_cases h2 : (w 8 4) = 47
    · refine go_icmp_neF (tgt := 58) (eD DX3_readRows 17 rfl) rfl (show eI (w 8 4) from by omega) (by decide) (not_not_intro h2) ?_
      refine go_aload_n (eD DX3_readRows 18 rfl) rfl rfl (go_callV (ci := 3) [] (eD DX3_readRows 19 rfl) ⟨eMem 2 69 rfl rfl, sX3_advance⟩ ⟨Nat.le_of_ble_eq_true rfl, Nat.le_of_ble_eq_true rfl⟩ (by decide) ⟨rfl, by decide, _, rfl, rfl⟩ rfl rfl (Nat.le_of_ble_eq_true rfl) (g1 (by assumption)) (go_aload_n (eD DX3_readRows 20 rfl) rfl rfl (go_callV (ci := 3) [] (eD DX3_readRows 21 rfl) ⟨eMem 2 144 rfl rfl, sX3_readRow⟩ ⟨Nat.le_of_ble_eq_true rfl, Nat.le_of_ble_eq_true rfl⟩ (by decide) ⟨rfl, by decide, _, rfl, rfl⟩ rfl rfl (Nat.le_of_ble_eq_true rfl) (g2 (by assumption)) (?_))))
      by_cases h3 : ok = 0
      · refine go_if_neF (tgt := 48) (eD DX3_readRows 22 rfl) rfl (by omega) (not_not_intro h3) ?_
        rw [(k2 h1 h2 h3).1, (k2 h1 h2 h3).2]
        exact go_iconst (eD DX3_readRows 23 rfl) (go_zret (eD DX3_readRows 24 rfl) rfl (by decide))
      · refine go_if_neT (tgt := 48) (eD DX3_readRows 22 rfl) rfl (by omega) h3 ?_
        exact go_aload_n (eD DX3_readRows 25 rfl) rfl rfl (go_callV (ci := 3) [] (eD DX3_readRows 26 rfl) ⟨eMem 2 69 rfl rfl, sX3_advance⟩ ⟨Nat.le_of_ble_eq_true rfl, Nat.le_of_ble_eq_true rfl⟩ (by decide) ⟨rfl, by decide, _, rfl, rfl⟩ rfl rfl (Nat.le_of_ble_eq_true rfl) (g3 (by assumption) (by assumption)) (go_iinc (eD DX3_readRows 27 rfl) rfl (by decide) (go_goto (tgt := 19) (eD DX3_readRows 28 rfl) rfl (Go.pick [1, 0] rfl (k3 h1 h2 h3)))))
    · refine go_icmp_neT (tgt := 58) (eD DX3_readRows 17 rfl) rfl (show eI (w 8 4) from by omega) (by decide) h2 ?_
      rw [(k4 h1 h2).1, (k4 h1 h2).2]
      exact go_iconst (eD DX3_readRows 29 rfl) (go_zret (eD DX3_readRows 30 rfl) rfl (by decide))
set_option maxHeartbeats 4000000 in
set_option maxRecDepth 20000 in
theorem tX3_readSpeeds_0 {r : Option eV} {w9 : eW} (w : eW) (k1 : Go mX3_readSpeeds 7 [(0, eR 8), (1, (0, 0))] [] (eU w 8 6 1) r w9) : Go mX3_readSpeeds 0 [(0, eR 8)] [] w r w9 := by
  exact go_aload_n (eD DX3_readSpeeds 0 rfl) rfl rfl (go_iconst (eD DX3_readSpeeds 1 rfl) (go_putZ (kz := 6) (eD DX3_readSpeeds 2 rfl) fX3_31 (by decide) rfl rfl (fun q h => by cases h; exact ⟨rfl, rfl⟩) rfl (by decide) (go_iconst (eD DX3_readSpeeds 3 rfl) (go_istore_n (eD DX3_readSpeeds 4 rfl) rfl (by decide) (Go.pick [1, 0] rfl (k1))))))
set_option maxHeartbeats 4000000 in
set_option maxRecDepth 20000 in
theorem tX3_readSpeeds0_7 {r : Option eV} {w9 : eW} (w : eW) {w2 : eW} {ok2 v : Int} (z2 : 0 ≤ ok2 ∧ ok2 ≤ 1) (g2 : Cal mX3_readWhole [eR 8, (0, 1), (0, 9)] w (some (0, ok2)) w2) (g3 : ¬ ok2 = 0 → Cal mX3_wholeValue [eR 8] w2 (some (0, v)) w2) (k1 : ok2 = 0 → r = some (0, 0) ∧ w9 = w2) (k2 : ¬ (ok2 = 0) → Go mX3_readSpeeds 7 [(0, eR 8), (1, (0, 0 + 1))] [] (eU w2 11 0 v) r w9) : Go mX3_readSpeeds 7 [(0, eR 8), (1, (0, 0))] [] w r w9 := by
  refine go_iload_n (eD DX3_readSpeeds 5 rfl) rfl rfl (go_iconst (eD DX3_readSpeeds 6 rfl) (go_icmp_geF (tgt := 55) (eD DX3_readSpeeds 7 rfl) rfl (by decide) (by decide) (Int.not_le.mpr (show (0 : Int) < 4 from by decide)) (?_)))
  refine go_iload_n (eD DX3_readSpeeds 8 rfl) rfl rfl (go_if_leT (tgt := 25) (eD DX3_readSpeeds 9 rfl) rfl (by decide) (Int.not_lt.mp (show ¬ ((0 : Int) < 0) from by decide)) (?_))
  refine go_aload_n (eD DX3_readSpeeds 15 rfl) rfl rfl (go_iconst (eD DX3_readSpeeds 16 rfl) (go_bipush (eD DX3_readSpeeds 17 rfl) (by decide) (go_callV (ci := 3) [(0, 1), (0, 9)] (eD DX3_readSpeeds 18 rfl) ⟨eMem 2 165 rfl rfl, sX3_readWhole⟩ ⟨Nat.le_of_ble_eq_true rfl, Nat.le_of_ble_eq_true rfl⟩ (by decide) ⟨rfl, by decide, _, rfl, rfl⟩ rfl rfl (Nat.le_of_ble_eq_true rfl) g2 (?_))))
  by_cases h1 : ok2 = 0
  · refine go_if_neF (tgt := 37) (eD DX3_readSpeeds 19 rfl) rfl (by omega) (not_not_intro h1) ?_
    rw [(k1 h1).1, (k1 h1).2]
    exact go_iconst (eD DX3_readSpeeds 20 rfl) (go_zret (eD DX3_readSpeeds 21 rfl) rfl (by decide))
  · refine go_if_neT (tgt := 37) (eD DX3_readSpeeds 19 rfl) rfl (by omega) h1 ?_
    refine go_aload_n (eD DX3_readSpeeds 22 rfl) rfl rfl (go_getR (t := 9) (eD DX3_readSpeeds 23 rfl) fX3_12 (by decide) rfl ⟨rfl, rfl⟩ (go_iload_n (eD DX3_readSpeeds 24 rfl) rfl rfl (go_aload_n (eD DX3_readSpeeds 25 rfl) rfl rfl (go_callV (ci := 3) [] (eD DX3_readSpeeds 26 rfl) ⟨eMem 2 169 rfl rfl, sX3_wholeValue⟩ ⟨Nat.le_of_ble_eq_true rfl, Nat.le_of_ble_eq_true rfl⟩ (by decide) ⟨rfl, by decide, _, rfl, rfl⟩ rfl rfl (Nat.le_of_ble_eq_true rfl) (g3 (by assumption)) (?_)))))
    refine go_callV (ci := 0) [(0, 0), (0, v)] (eD DX3_readSpeeds 27 rfl) ⟨eMem 2 173 rfl rfl, sX0_setPace⟩ ⟨Nat.le_of_ble_eq_true rfl, Nat.le_of_ble_eq_true rfl⟩ (by decide) ⟨rfl, by decide, _, rfl, rfl⟩ rfl rfl (Nat.le_of_ble_eq_true rfl) (Cal.as (zX0_setPace9 w2 0 v (by decide) ) (r2 := none) (w2 := (eU w2 11 0 v)) rfl (by (try simp only [wX0_setPace9, if_neg h1]) <;> (try rfl))) (?_)
    exact go_iinc (eD DX3_readSpeeds 28 rfl) rfl (by decide) (go_goto (tgt := 7) (eD DX3_readSpeeds 29 rfl) rfl (Go.pick [1, 0] rfl (k2 h1)))
set_option maxHeartbeats 4000000 in
set_option maxRecDepth 20000 in
theorem tX3_readSpeeds_7 {r : Option eV} {w9 : eW} (w : eW) (k : Int) {w1 w2 w4 : eW} {ok1 ok2 v : Int} (hk : 1 ≤ k ∧ k ≤ 4) (z1 : 0 ≤ ok1 ∧ ok1 ≤ 1) (z2 : 0 ≤ ok2 ∧ ok2 ≤ 1) (g1 : k < 4 → Cal mX3_readComma [eR 8] w (some (0, ok1)) w1) (g2 : k < 4 → ¬ ok1 = 0 → Cal mX3_readWhole [eR 8, (0, 1), (0, 9)] w1 (some (0, ok2)) w2) (g3 : k < 4 → ¬ ok1 = 0 → ¬ ok2 = 0 → Cal mX3_wholeValue [eR 8] w2 (some (0, v)) w2) (g4 : ¬ k < 4 → Cal mX3_advance [eR 8] w none w4) (k1 : k < 4 → ok1 = 0 → r = some (0, 0) ∧ w9 = w1) (k2 : k < 4 → ¬ (ok1 = 0) → ok2 = 0 → r = some (0, 0) ∧ w9 = w2) (k3 : k < 4 → ¬ (ok1 = 0) → ¬ (ok2 = 0) → k < 0 → Go mX3_readSpeeds 7 [(0, eR 8), (1, (0, k + 1))] [] w2 r w9) (k4 : k < 4 → ¬ (ok1 = 0) → ¬ (ok2 = 0) → ¬ (k < 0) → Go mX3_readSpeeds 7 [(0, eR 8), (1, (0, k + 1))] [] (eU w2 11 k v) r w9) (k5 : ¬ (k < 4) → r = some (0, 1) ∧ w9 = w4) : Go mX3_readSpeeds 7 [(0, eR 8), (1, (0, k))] [] w r w9 := by
  have a1 : 0 < k := by omega
  refine go_iload_n (eD DX3_readSpeeds 5 rfl) rfl rfl (go_iconst (eD DX3_readSpeeds 6 rfl) (?_))
  by_cases h1 : k < 4
  · refine go_icmp_geF (tgt := 55) (eD DX3_readSpeeds 7 rfl) rfl (by omega) (by decide) (Int.not_le.mpr h1) ?_
    refine go_iload_n (eD DX3_readSpeeds 8 rfl) rfl rfl (go_if_leF (tgt := 25) (eD DX3_readSpeeds 9 rfl) rfl (by omega) (Int.not_le.mpr a1) (?_))
    refine go_aload_n (eD DX3_readSpeeds 10 rfl) rfl rfl (go_callV (ci := 3) [] (eD DX3_readSpeeds 11 rfl) ⟨eMem 2 161 rfl rfl, sX3_readComma⟩ ⟨Nat.le_of_ble_eq_true rfl, Nat.le_of_ble_eq_true rfl⟩ (by decide) ⟨rfl, by decide, _, rfl, rfl⟩ rfl rfl (Nat.le_of_ble_eq_true rfl) (g1 (by assumption)) (?_))
    by_cases h2 : ok1 = 0
    · refine go_if_neF (tgt := 25) (eD DX3_readSpeeds 12 rfl) rfl (by omega) (not_not_intro h2) ?_
      rw [(k1 h1 h2).1, (k1 h1 h2).2]
      exact go_iconst (eD DX3_readSpeeds 13 rfl) (go_zret (eD DX3_readSpeeds 14 rfl) rfl (by decide))
    · refine go_if_neT (tgt := 25) (eD DX3_readSpeeds 12 rfl) rfl (by omega) h2 ?_
      refine go_aload_n (eD DX3_readSpeeds 15 rfl) rfl rfl (go_iconst (eD DX3_readSpeeds 16 rfl) (go_bipush (eD DX3_readSpeeds 17 rfl) (by decide) (go_callV (ci := 3) [(0, 1), (0, 9)] (eD DX3_readSpeeds 18 rfl) ⟨eMem 2 165 rfl rfl, sX3_readWhole⟩ ⟨Nat.le_of_ble_eq_true rfl, Nat.le_of_ble_eq_true rfl⟩ (by decide) ⟨rfl, by decide, _, rfl, rfl⟩ rfl rfl (Nat.le_of_ble_eq_true rfl) (g2 (by assumption) (by assumption)) (?_))))
      by_cases h3 : ok2 = 0
      · refine go_if_neF (tgt := 37) (eD DX3_readSpeeds 19 rfl) rfl (by omega) (not_not_intro h3) ?_
        rw [(k2 h1 h2 h3).1, (k2 h1 h2 h3).2]
        exact go_iconst (eD DX3_readSpeeds 20 rfl) (go_zret (eD DX3_readSpeeds 21 rfl) rfl (by decide))
      · refine go_if_neT (tgt := 37) (eD DX3_readSpeeds 19 rfl) rfl (by omega) h3 ?_
        refine go_aload_n (eD DX3_readSpeeds 22 rfl) rfl rfl (go_getR (t := 9) (eD DX3_readSpeeds 23 rfl) fX3_12 (by decide) rfl ⟨rfl, rfl⟩ (go_iload_n (eD DX3_readSpeeds 24 rfl) rfl rfl (go_aload_n (eD DX3_readSpeeds 25 rfl) rfl rfl (go_callV (ci := 3) [] (eD DX3_readSpeeds 26 rfl) ⟨eMem 2 169 rfl rfl, sX3_wholeValue⟩ ⟨Nat.le_of_ble_eq_true rfl, Nat.le_of_ble_eq_true rfl⟩ (by decide) ⟨rfl, by decide, _, rfl, rfl⟩ rfl rfl (Nat.le_of_ble_eq_true rfl) (g3 (by assumption) (by assumption) (by assumption)) (?_)))))
        by_cases h4 : k < 0
        · refine go_callV (ci := 0) [(0, k), (0, v)] (eD DX3_readSpeeds 27 rfl) ⟨eMem 2 173 rfl rfl, sX0_setPace⟩ ⟨Nat.le_of_ble_eq_true rfl, Nat.le_of_ble_eq_true rfl⟩ (by decide) ⟨rfl, by decide, _, rfl, rfl⟩ rfl rfl (Nat.le_of_ble_eq_true rfl) (Cal.as (zX0_setPace9 w2 k v (by omega) ) (r2 := none) (w2 := w2) rfl (by (try simp only [wX0_setPace9, if_pos a1, if_pos h1, if_neg h2, if_neg h3, if_pos h4]) <;> (try rfl))) (?_)
          exact go_iinc (eD DX3_readSpeeds 28 rfl) rfl (by decide) (go_goto (tgt := 7) (eD DX3_readSpeeds 29 rfl) rfl (Go.pick [1, 0] rfl (k3 h1 h2 h3 h4)))
        · refine go_callV (ci := 0) [(0, k), (0, v)] (eD DX3_readSpeeds 27 rfl) ⟨eMem 2 173 rfl rfl, sX0_setPace⟩ ⟨Nat.le_of_ble_eq_true rfl, Nat.le_of_ble_eq_true rfl⟩ (by decide) ⟨rfl, by decide, _, rfl, rfl⟩ rfl rfl (Nat.le_of_ble_eq_true rfl) (Cal.as (zX0_setPace9 w2 k v (by omega) ) (r2 := none) (w2 := (eU w2 11 k v)) rfl (by (try simp only [wX0_setPace9, if_pos a1, if_pos h1, if_neg h2, if_neg h3, if_neg h4]) <;> (try rfl))) (?_)
          exact go_iinc (eD DX3_readSpeeds 28 rfl) rfl (by decide) (go_goto (tgt := 7) (eD DX3_readSpeeds 29 rfl) rfl (Go.pick [1, 0] rfl (k4 h1 h2 h3 h4)))
  · refine go_icmp_geT (tgt := 55) (eD DX3_readSpeeds 7 rfl) rfl (by omega) (by decide) (Int.not_lt.mp h1) ?_
    rw [(k5 h1).1, (k5 h1).2]
    exact go_aload_n (eD DX3_readSpeeds 30 rfl) rfl rfl (go_callV (ci := 3) [] (eD DX3_readSpeeds 31 rfl) ⟨eMem 2 69 rfl rfl, sX3_advance⟩ ⟨Nat.le_of_ble_eq_true rfl, Nat.le_of_ble_eq_true rfl⟩ (by decide) ⟨rfl, by decide, _, rfl, rfl⟩ rfl rfl (Nat.le_of_ble_eq_true rfl) (g4 (by assumption)) (go_iconst (eD DX3_readSpeeds 32 rfl) (go_zret (eD DX3_readSpeeds 33 rfl) rfl (by decide))))
