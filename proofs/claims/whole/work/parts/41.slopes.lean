set_option maxHeartbeats 4000000 in
set_option maxRecDepth 20000 in
theorem tX5_heightOf_0 {r : Option eV} {w9 : eW} (w : eW) (px py : Int) {w1 w2 w3 : eW} {hh : Int} (h1 : Cal mX5_readyHouse [eR 16] w none w1) (h2 : Cal mX5_readyRows [eR 16, (0, px)] w1 none w2) (h3 : Cal mX5_readyColumns [eR 16, (0, py)] w2 none w3) (h4 : Cal mX5_leastReach [eR 16, (0, px), (0, py)] w3 (some (0, hh)) w3) (k1 : r = some (0, hh) ∧ w9 = w3) : Go mX5_heightOf 0 [(0, eR 16), (1, (0, px)), (2, (0, py))] [] w r w9 := by
  rw [(k1).1, (k1).2]
  exact go_aload_n (eD DX5_heightOf 0 rfl) rfl rfl (go_callV (ci := 5) [] (eD DX5_heightOf 1 rfl) ⟨eMem 3 147 rfl rfl, sX5_readyHouse⟩ ⟨Nat.le_of_ble_eq_true rfl, Nat.le_of_ble_eq_true rfl⟩ (by decide) ⟨rfl, by decide, _, rfl, rfl⟩ rfl rfl (Nat.le_of_ble_eq_true rfl) h1 (go_aload_n (eD DX5_heightOf 2 rfl) rfl rfl (go_iload_n (eD DX5_heightOf 3 rfl) rfl rfl (go_callV (ci := 5) [(0, px)] (eD DX5_heightOf 4 rfl) ⟨eMem 3 155 rfl rfl, sX5_readyRows⟩ ⟨Nat.le_of_ble_eq_true rfl, Nat.le_of_ble_eq_true rfl⟩ (by decide) ⟨rfl, by decide, _, rfl, rfl⟩ rfl rfl (Nat.le_of_ble_eq_true rfl) h2 (go_aload_n (eD DX5_heightOf 5 rfl) rfl rfl (go_iload_n (eD DX5_heightOf 6 rfl) rfl rfl (go_callV (ci := 5) [(0, py)] (eD DX5_heightOf 7 rfl) ⟨eMem 3 172 rfl rfl, sX5_readyColumns⟩ ⟨Nat.le_of_ble_eq_true rfl, Nat.le_of_ble_eq_true rfl⟩ (by decide) ⟨rfl, by decide, _, rfl, rfl⟩ rfl rfl (Nat.le_of_ble_eq_true rfl) h3 (go_aload_n (eD DX5_heightOf 8 rfl) rfl rfl (go_iload_n (eD DX5_heightOf 9 rfl) rfl rfl (go_iload_n (eD DX5_heightOf 10 rfl) rfl rfl (go_callV (ci := 5) [(0, px), (0, py)] (eD DX5_heightOf 11 rfl) ⟨eMem 3 180 rfl rfl, sX5_leastReach⟩ ⟨Nat.le_of_ble_eq_true rfl, Nat.le_of_ble_eq_true rfl⟩ (by decide) ⟨rfl, by decide, _, rfl, rfl⟩ rfl rfl (Nat.le_of_ble_eq_true rfl) h4 (go_iret (eD DX5_heightOf 12 rfl) rfl))))))))))))
def rX5_laneAt0 (w : eW) (px py high : Int) : Int := if (high % (w 17 0)) = 0 then (if (py - (high / (w 17 0))) < 0 then (-9) else (if ((py - (high / (w 17 0))) % 4) = 0 then (((py - (high / (w 17 0))) / 4) - 1) else (-9))) else (-9)
set_option maxRecDepth 20000 in
theorem zX5_laneAt0 (w : eW) (px py high : Int) (hpy : eI py) (hhigh : eI high) (hp : 0 ≤ px ∧ px ≤ 56 ∧ 0 ≤ py ∧ py ≤ 40) (hh : 0 ≤ high ∧ high ≤ 200000) (ht : 1 ≤ w 17 0 ∧ w 17 0 ≤ 2520) : Cal mX5_laneAt [eR 16, (0, 0), (0, px), (0, py), (0, high)] w (some (0, rX5_laneAt0 w px py high)) w := by
  have d1 : 0 ≤ high / w 17 0 := Int.ediv_nonneg (by omega) (by omega)
  have d2 : high / w 17 0 ≤ high := Int.ediv_le_self _ (by omega)
  have d3 : 0 ≤ high % w 17 0 := Int.emod_nonneg _ (by omega)
  have d4 : high % w 17 0 < w 17 0 := Int.emod_lt_of_pos _ (by omega)
  have a1 : 0 < (w 17 0) := by omega
  unfold rX5_laneAt0
  refine Cal.of (by decide +kernel) (Nat.le_of_ble_eq_true rfl) ?_
  show Go _ 0 [(0, eR 16), (1, (0, 0)), (2, (0, px)), (3, (0, py)), (4, (0, high))] [] _ _ _
  refine go_aload_n (eD DX5_laneAt 0 rfl) rfl rfl (go_iload_n (eD DX5_laneAt 1 rfl) rfl rfl (?_))
  refine go_callV (ci := 5) [(0, 0)] (eD DX5_laneAt 2 rfl) ⟨eMem 3 159 rfl rfl, sX5_timeOf⟩ ⟨Nat.le_of_ble_eq_true rfl, Nat.le_of_ble_eq_true rfl⟩ (by decide) ⟨rfl, by decide, _, rfl, rfl⟩ rfl rfl (Nat.le_of_ble_eq_true rfl) (Cal.as (zX5_timeOf w 0 (by decide) ) (r2 := some (0, w 17 0)) (w2 := w) (by (try simp only [rX5_timeOf, if_pos a1]) <;> (try rfl)) rfl) (?_)
  refine go_istore (eD DX5_laneAt 3 rfl) (by decide) (go_iload (eD DX5_laneAt 4 rfl) rfl (go_if_leF (tgt := 20) (eD DX5_laneAt 5 rfl) rfl (show eI (w 17 0) from by omega) (Int.not_le.mpr a1) (?_)))
  refine go_iload (eD DX5_laneAt 6 rfl) rfl (go_iload (eD DX5_laneAt 7 rfl) rfl (go_irem (eD DX5_laneAt 8 rfl) (by omega) (show eI (w 17 0) from by omega) (by omega) (show 0 < (w 17 0) from by omega) (?_)))
  by_cases h1 : (high % (w 17 0)) = 0
  · refine go_if_eqT (tgt := 23) (eD DX5_laneAt 9 rfl) rfl (show eI (high % (w 17 0)) from by omega) h1 ?_
    refine go_iload (eD DX5_laneAt 12 rfl) rfl (go_iload (eD DX5_laneAt 13 rfl) rfl (go_idiv (eD DX5_laneAt 14 rfl) (by omega) (show eI (w 17 0) from by omega) (by omega) (show 0 < (w 17 0) from by omega) (go_istore (eD DX5_laneAt 15 rfl) (by decide) (go_iload_n (eD DX5_laneAt 16 rfl) rfl rfl (go_if_eqT (tgt := 39) (eD DX5_laneAt 17 rfl) rfl (by decide) (show (0 : Int) = 0 from by decide) (?_))))))
    refine go_iconst (eD DX5_laneAt 21 rfl) (go_goto (tgt := 44) (eD DX5_laneAt 22 rfl) rfl (go_istore (eD DX5_laneAt 24 rfl) (by decide) (go_iload_n (eD DX5_laneAt 25 rfl) rfl rfl (go_if_eqT (tgt := 55) (eD DX5_laneAt 26 rfl) rfl (by decide) (show (0 : Int) = 0 from by decide) (?_)))))
    refine go_iload_n (eD DX5_laneAt 30 rfl) rfl rfl (go_goto (tgt := 60) (eD DX5_laneAt 31 rfl) rfl (go_istore (eD DX5_laneAt 33 rfl) (by decide) (go_iload (eD DX5_laneAt 34 rfl) rfl (go_if_eqF (tgt := 75) (eD DX5_laneAt 35 rfl) rfl (by decide) (show ¬ ((1 : Int) = 0) from by decide) (?_)))))
    refine go_iload (eD DX5_laneAt 36 rfl) rfl (go_iload (eD DX5_laneAt 37 rfl) rfl (go_isub (eD DX5_laneAt 38 rfl) (go_goto (tgt := 80) (eD DX5_laneAt 39 rfl) rfl (go_istore (eD DX5_laneAt 43 rfl) (by decide) (go_iload (eD DX5_laneAt 44 rfl) rfl (?_))))))
    by_cases h2 : (py - (high / (w 17 0))) < 0
    · refine go_if_ltT (tgt := 94) (eD DX5_laneAt 45 rfl) rfl (show eI (py - (high / (w 17 0))) from by omega) h2 ?_
      simp only [if_pos h1, if_pos h2]
      exact go_bipush (eD DX5_laneAt 50 rfl) (by decide) (go_iret (eD DX5_laneAt 51 rfl) rfl)
    · refine go_if_ltF (tgt := 94) (eD DX5_laneAt 45 rfl) rfl (show eI (py - (high / (w 17 0))) from by omega) h2 ?_
      refine go_iload (eD DX5_laneAt 46 rfl) rfl (go_iconst (eD DX5_laneAt 47 rfl) (go_irem (eD DX5_laneAt 48 rfl) (show eI (py - (high / (w 17 0))) from by omega) (by decide) (show 0 ≤ (py - (high / (w 17 0))) from by omega) (show (0 : Int) < 4 from by decide) (?_)))
      by_cases h3 : ((py - (high / (w 17 0))) % 4) = 0
      · refine go_if_eqT (tgt := 97) (eD DX5_laneAt 49 rfl) rfl (show eI ((py - (high / (w 17 0))) % 4) from by omega) h3 ?_
        refine go_iload (eD DX5_laneAt 52 rfl) rfl (go_if_eqF (tgt := 111) (eD DX5_laneAt 53 rfl) rfl (by decide) (show ¬ ((1 : Int) = 0) from by decide) (?_))
        simp only [if_pos h1, if_neg h2, if_pos h3]
        exact go_iload (eD DX5_laneAt 54 rfl) rfl (go_iconst (eD DX5_laneAt 55 rfl) (go_idiv (eD DX5_laneAt 56 rfl) (show eI (py - (high / (w 17 0))) from by omega) (by decide) (show 0 ≤ (py - (high / (w 17 0))) from by omega) (show (0 : Int) < 4 from by decide) (go_iconst (eD DX5_laneAt 57 rfl) (go_isub (eD DX5_laneAt 58 rfl) (go_goto (tgt := 115) (eD DX5_laneAt 59 rfl) rfl (go_iret (eD DX5_laneAt 63 rfl) rfl))))))
      · refine go_if_eqF (tgt := 97) (eD DX5_laneAt 49 rfl) rfl (show eI ((py - (high / (w 17 0))) % 4) from by omega) h3 ?_
        simp only [if_pos h1, if_neg h2, if_neg h3]
        exact go_bipush (eD DX5_laneAt 50 rfl) (by decide) (go_iret (eD DX5_laneAt 51 rfl) rfl)
  · refine go_if_eqF (tgt := 23) (eD DX5_laneAt 9 rfl) rfl (show eI (high % (w 17 0)) from by omega) h1 ?_
    simp only [if_neg h1]
    exact go_bipush (eD DX5_laneAt 10 rfl) (by decide) (go_iret (eD DX5_laneAt 11 rfl) rfl)
def rX5_laneAt1 (w : eW) (px py high : Int) : Int := if (high % (w 17 1)) = 0 then (if (px + (high / (w 17 1))) < 0 then (-9) else (if ((px + (high / (w 17 1))) % 4) = 0 then ((px + (high / (w 17 1))) / 4) else (-9))) else (-9)
set_option maxRecDepth 20000 in
theorem zX5_laneAt1 (w : eW) (px py high : Int) (hpx : eI px) (hhigh : eI high) (hp : 0 ≤ px ∧ px ≤ 56 ∧ 0 ≤ py ∧ py ≤ 40) (hh : 0 ≤ high ∧ high ≤ 200000) (ht : 1 ≤ w 17 1 ∧ w 17 1 ≤ 2520) : Cal mX5_laneAt [eR 16, (0, 1), (0, px), (0, py), (0, high)] w (some (0, rX5_laneAt1 w px py high)) w := by
  have d1 : 0 ≤ high / w 17 1 := Int.ediv_nonneg (by omega) (by omega)
  have d2 : high / w 17 1 ≤ high := Int.ediv_le_self _ (by omega)
  have d3 : 0 ≤ high % w 17 1 := Int.emod_nonneg _ (by omega)
  have d4 : high % w 17 1 < w 17 1 := Int.emod_lt_of_pos _ (by omega)
  have a1 : 0 < (w 17 1) := by omega
  unfold rX5_laneAt1
  refine Cal.of (by decide +kernel) (Nat.le_of_ble_eq_true rfl) ?_
  show Go _ 0 [(0, eR 16), (1, (0, 1)), (2, (0, px)), (3, (0, py)), (4, (0, high))] [] _ _ _
  refine go_aload_n (eD DX5_laneAt 0 rfl) rfl rfl (go_iload_n (eD DX5_laneAt 1 rfl) rfl rfl (?_))
  refine go_callV (ci := 5) [(0, 1)] (eD DX5_laneAt 2 rfl) ⟨eMem 3 159 rfl rfl, sX5_timeOf⟩ ⟨Nat.le_of_ble_eq_true rfl, Nat.le_of_ble_eq_true rfl⟩ (by decide) ⟨rfl, by decide, _, rfl, rfl⟩ rfl rfl (Nat.le_of_ble_eq_true rfl) (Cal.as (zX5_timeOf w 1 (by decide) ) (r2 := some (0, w 17 1)) (w2 := w) (by (try simp only [rX5_timeOf, if_pos a1]) <;> (try rfl)) rfl) (?_)
  refine go_istore (eD DX5_laneAt 3 rfl) (by decide) (go_iload (eD DX5_laneAt 4 rfl) rfl (go_if_leF (tgt := 20) (eD DX5_laneAt 5 rfl) rfl (show eI (w 17 1) from by omega) (Int.not_le.mpr a1) (?_)))
  refine go_iload (eD DX5_laneAt 6 rfl) rfl (go_iload (eD DX5_laneAt 7 rfl) rfl (go_irem (eD DX5_laneAt 8 rfl) (by omega) (show eI (w 17 1) from by omega) (by omega) (show 0 < (w 17 1) from by omega) (?_)))
  by_cases h1 : (high % (w 17 1)) = 0
  · refine go_if_eqT (tgt := 23) (eD DX5_laneAt 9 rfl) rfl (show eI (high % (w 17 1)) from by omega) h1 ?_
    refine go_iload (eD DX5_laneAt 12 rfl) rfl (go_iload (eD DX5_laneAt 13 rfl) rfl (go_idiv (eD DX5_laneAt 14 rfl) (by omega) (show eI (w 17 1) from by omega) (by omega) (show 0 < (w 17 1) from by omega) (go_istore (eD DX5_laneAt 15 rfl) (by decide) (go_iload_n (eD DX5_laneAt 16 rfl) rfl rfl (go_if_eqF (tgt := 39) (eD DX5_laneAt 17 rfl) rfl (by decide) (show ¬ ((1 : Int) = 0) from by decide) (?_))))))
    refine go_iload_n (eD DX5_laneAt 18 rfl) rfl rfl (go_iconst (eD DX5_laneAt 19 rfl) (go_icmp_neT (tgt := 43) (eD DX5_laneAt 20 rfl) rfl (by decide) (by decide) (show ¬ ((1 : Int) = 3) from by decide) (?_)))
    refine go_iconst (eD DX5_laneAt 23 rfl) (go_istore (eD DX5_laneAt 24 rfl) (by decide) (go_iload_n (eD DX5_laneAt 25 rfl) rfl rfl (go_if_eqF (tgt := 55) (eD DX5_laneAt 26 rfl) rfl (by decide) (show ¬ ((1 : Int) = 0) from by decide) (?_))))
    refine go_iload_n (eD DX5_laneAt 27 rfl) rfl rfl (go_iconst (eD DX5_laneAt 28 rfl) (go_icmp_neT (tgt := 59) (eD DX5_laneAt 29 rfl) rfl (by decide) (by decide) (show ¬ ((1 : Int) = 2) from by decide) (?_)))
    refine go_iload_n (eD DX5_laneAt 32 rfl) rfl rfl (go_istore (eD DX5_laneAt 33 rfl) (by decide) (go_iload (eD DX5_laneAt 34 rfl) rfl (go_if_eqT (tgt := 75) (eD DX5_laneAt 35 rfl) rfl (by decide) (show (0 : Int) = 0 from by decide) (?_))))
    refine go_iload (eD DX5_laneAt 40 rfl) rfl (go_iload (eD DX5_laneAt 41 rfl) rfl (go_iadd (eD DX5_laneAt 42 rfl) (go_istore (eD DX5_laneAt 43 rfl) (by decide) (go_iload (eD DX5_laneAt 44 rfl) rfl (?_)))))
    by_cases h2 : (px + (high / (w 17 1))) < 0
    · refine go_if_ltT (tgt := 94) (eD DX5_laneAt 45 rfl) rfl (show eI (px + (high / (w 17 1))) from by omega) h2 ?_
      simp only [if_pos h1, if_pos h2]
      exact go_bipush (eD DX5_laneAt 50 rfl) (by decide) (go_iret (eD DX5_laneAt 51 rfl) rfl)
    · refine go_if_ltF (tgt := 94) (eD DX5_laneAt 45 rfl) rfl (show eI (px + (high / (w 17 1))) from by omega) h2 ?_
      refine go_iload (eD DX5_laneAt 46 rfl) rfl (go_iconst (eD DX5_laneAt 47 rfl) (go_irem (eD DX5_laneAt 48 rfl) (show eI (px + (high / (w 17 1))) from by omega) (by decide) (show 0 ≤ (px + (high / (w 17 1))) from by omega) (show (0 : Int) < 4 from by decide) (?_)))
      by_cases h3 : ((px + (high / (w 17 1))) % 4) = 0
      · refine go_if_eqT (tgt := 97) (eD DX5_laneAt 49 rfl) rfl (show eI ((px + (high / (w 17 1))) % 4) from by omega) h3 ?_
        refine go_iload (eD DX5_laneAt 52 rfl) rfl (go_if_eqT (tgt := 111) (eD DX5_laneAt 53 rfl) rfl (by decide) (show (0 : Int) = 0 from by decide) (?_))
        simp only [if_pos h1, if_neg h2, if_pos h3]
        exact go_iload (eD DX5_laneAt 60 rfl) rfl (go_iconst (eD DX5_laneAt 61 rfl) (go_idiv (eD DX5_laneAt 62 rfl) (show eI (px + (high / (w 17 1))) from by omega) (by decide) (show 0 ≤ (px + (high / (w 17 1))) from by omega) (show (0 : Int) < 4 from by decide) (go_iret (eD DX5_laneAt 63 rfl) rfl)))
      · refine go_if_eqF (tgt := 97) (eD DX5_laneAt 49 rfl) rfl (show eI ((px + (high / (w 17 1))) % 4) from by omega) h3 ?_
        simp only [if_pos h1, if_neg h2, if_neg h3]
        exact go_bipush (eD DX5_laneAt 50 rfl) (by decide) (go_iret (eD DX5_laneAt 51 rfl) rfl)
  · refine go_if_eqF (tgt := 23) (eD DX5_laneAt 9 rfl) rfl (show eI (high % (w 17 1)) from by omega) h1 ?_
    simp only [if_neg h1]
    exact go_bipush (eD DX5_laneAt 10 rfl) (by decide) (go_iret (eD DX5_laneAt 11 rfl) rfl)
def rX5_laneAt2 (w : eW) (px py high : Int) : Int := if (high % (w 17 2)) = 0 then (if (py + (high / (w 17 2))) < 0 then (-9) else (if ((py + (high / (w 17 2))) % 4) = 0 then ((py + (high / (w 17 2))) / 4) else (-9))) else (-9)
set_option maxRecDepth 20000 in
theorem zX5_laneAt2 (w : eW) (px py high : Int) (hpy : eI py) (hhigh : eI high) (hp : 0 ≤ px ∧ px ≤ 56 ∧ 0 ≤ py ∧ py ≤ 40) (hh : 0 ≤ high ∧ high ≤ 200000) (ht : 1 ≤ w 17 2 ∧ w 17 2 ≤ 2520) : Cal mX5_laneAt [eR 16, (0, 2), (0, px), (0, py), (0, high)] w (some (0, rX5_laneAt2 w px py high)) w := by
  have d1 : 0 ≤ high / w 17 2 := Int.ediv_nonneg (by omega) (by omega)
  have d2 : high / w 17 2 ≤ high := Int.ediv_le_self _ (by omega)
  have d3 : 0 ≤ high % w 17 2 := Int.emod_nonneg _ (by omega)
  have d4 : high % w 17 2 < w 17 2 := Int.emod_lt_of_pos _ (by omega)
  have a1 : 0 < (w 17 2) := by omega
  unfold rX5_laneAt2
  refine Cal.of (by decide +kernel) (Nat.le_of_ble_eq_true rfl) ?_
  show Go _ 0 [(0, eR 16), (1, (0, 2)), (2, (0, px)), (3, (0, py)), (4, (0, high))] [] _ _ _
  refine go_aload_n (eD DX5_laneAt 0 rfl) rfl rfl (go_iload_n (eD DX5_laneAt 1 rfl) rfl rfl (?_))
  refine go_callV (ci := 5) [(0, 2)] (eD DX5_laneAt 2 rfl) ⟨eMem 3 159 rfl rfl, sX5_timeOf⟩ ⟨Nat.le_of_ble_eq_true rfl, Nat.le_of_ble_eq_true rfl⟩ (by decide) ⟨rfl, by decide, _, rfl, rfl⟩ rfl rfl (Nat.le_of_ble_eq_true rfl) (Cal.as (zX5_timeOf w 2 (by decide) ) (r2 := some (0, w 17 2)) (w2 := w) (by (try simp only [rX5_timeOf, if_pos a1]) <;> (try rfl)) rfl) (?_)
  refine go_istore (eD DX5_laneAt 3 rfl) (by decide) (go_iload (eD DX5_laneAt 4 rfl) rfl (go_if_leF (tgt := 20) (eD DX5_laneAt 5 rfl) rfl (show eI (w 17 2) from by omega) (Int.not_le.mpr a1) (?_)))
  refine go_iload (eD DX5_laneAt 6 rfl) rfl (go_iload (eD DX5_laneAt 7 rfl) rfl (go_irem (eD DX5_laneAt 8 rfl) (by omega) (show eI (w 17 2) from by omega) (by omega) (show 0 < (w 17 2) from by omega) (?_)))
  by_cases h1 : (high % (w 17 2)) = 0
  · refine go_if_eqT (tgt := 23) (eD DX5_laneAt 9 rfl) rfl (show eI (high % (w 17 2)) from by omega) h1 ?_
    refine go_iload (eD DX5_laneAt 12 rfl) rfl (go_iload (eD DX5_laneAt 13 rfl) rfl (go_idiv (eD DX5_laneAt 14 rfl) (by omega) (show eI (w 17 2) from by omega) (by omega) (show 0 < (w 17 2) from by omega) (go_istore (eD DX5_laneAt 15 rfl) (by decide) (go_iload_n (eD DX5_laneAt 16 rfl) rfl rfl (go_if_eqF (tgt := 39) (eD DX5_laneAt 17 rfl) rfl (by decide) (show ¬ ((2 : Int) = 0) from by decide) (?_))))))
    refine go_iload_n (eD DX5_laneAt 18 rfl) rfl rfl (go_iconst (eD DX5_laneAt 19 rfl) (go_icmp_neT (tgt := 43) (eD DX5_laneAt 20 rfl) rfl (by decide) (by decide) (show ¬ ((2 : Int) = 3) from by decide) (?_)))
    refine go_iconst (eD DX5_laneAt 23 rfl) (go_istore (eD DX5_laneAt 24 rfl) (by decide) (go_iload_n (eD DX5_laneAt 25 rfl) rfl rfl (go_if_eqF (tgt := 55) (eD DX5_laneAt 26 rfl) rfl (by decide) (show ¬ ((2 : Int) = 0) from by decide) (?_))))
    refine go_iload_n (eD DX5_laneAt 27 rfl) rfl rfl (go_iconst (eD DX5_laneAt 28 rfl) (go_icmp_neF (tgt := 59) (eD DX5_laneAt 29 rfl) rfl (by decide) (by decide) (not_not_intro (show (2 : Int) = 2 from by decide)) (?_)))
    refine go_iload_n (eD DX5_laneAt 30 rfl) rfl rfl (go_goto (tgt := 60) (eD DX5_laneAt 31 rfl) rfl (go_istore (eD DX5_laneAt 33 rfl) (by decide) (go_iload (eD DX5_laneAt 34 rfl) rfl (go_if_eqT (tgt := 75) (eD DX5_laneAt 35 rfl) rfl (by decide) (show (0 : Int) = 0 from by decide) (?_)))))
    refine go_iload (eD DX5_laneAt 40 rfl) rfl (go_iload (eD DX5_laneAt 41 rfl) rfl (go_iadd (eD DX5_laneAt 42 rfl) (go_istore (eD DX5_laneAt 43 rfl) (by decide) (go_iload (eD DX5_laneAt 44 rfl) rfl (?_)))))
    by_cases h2 : (py + (high / (w 17 2))) < 0
    · refine go_if_ltT (tgt := 94) (eD DX5_laneAt 45 rfl) rfl (show eI (py + (high / (w 17 2))) from by omega) h2 ?_
      simp only [if_pos h1, if_pos h2]
      exact go_bipush (eD DX5_laneAt 50 rfl) (by decide) (go_iret (eD DX5_laneAt 51 rfl) rfl)
    · refine go_if_ltF (tgt := 94) (eD DX5_laneAt 45 rfl) rfl (show eI (py + (high / (w 17 2))) from by omega) h2 ?_
      refine go_iload (eD DX5_laneAt 46 rfl) rfl (go_iconst (eD DX5_laneAt 47 rfl) (go_irem (eD DX5_laneAt 48 rfl) (show eI (py + (high / (w 17 2))) from by omega) (by decide) (show 0 ≤ (py + (high / (w 17 2))) from by omega) (show (0 : Int) < 4 from by decide) (?_)))
      by_cases h3 : ((py + (high / (w 17 2))) % 4) = 0
      · refine go_if_eqT (tgt := 97) (eD DX5_laneAt 49 rfl) rfl (show eI ((py + (high / (w 17 2))) % 4) from by omega) h3 ?_
        refine go_iload (eD DX5_laneAt 52 rfl) rfl (go_if_eqT (tgt := 111) (eD DX5_laneAt 53 rfl) rfl (by decide) (show (0 : Int) = 0 from by decide) (?_))
        simp only [if_pos h1, if_neg h2, if_pos h3]
        exact go_iload (eD DX5_laneAt 60 rfl) rfl (go_iconst (eD DX5_laneAt 61 rfl) (go_idiv (eD DX5_laneAt 62 rfl) (show eI (py + (high / (w 17 2))) from by omega) (by decide) (show 0 ≤ (py + (high / (w 17 2))) from by omega) (show (0 : Int) < 4 from by decide) (go_iret (eD DX5_laneAt 63 rfl) rfl)))
      · refine go_if_eqF (tgt := 97) (eD DX5_laneAt 49 rfl) rfl (show eI ((py + (high / (w 17 2))) % 4) from by omega) h3 ?_
        simp only [if_pos h1, if_neg h2, if_neg h3]
        exact go_bipush (eD DX5_laneAt 50 rfl) (by decide) (go_iret (eD DX5_laneAt 51 rfl) rfl)
  · refine go_if_eqF (tgt := 23) (eD DX5_laneAt 9 rfl) rfl (show eI (high % (w 17 2)) from by omega) h1 ?_
    simp only [if_neg h1]
    exact go_bipush (eD DX5_laneAt 10 rfl) (by decide) (go_iret (eD DX5_laneAt 11 rfl) rfl)
def rX5_laneAt3 (w : eW) (px py high : Int) : Int := if (high % (w 17 3)) = 0 then (if (px - (high / (w 17 3))) < 0 then (-9) else (if ((px - (high / (w 17 3))) % 4) = 0 then (((px - (high / (w 17 3))) / 4) - 1) else (-9))) else (-9)
set_option maxRecDepth 20000 in
theorem zX5_laneAt3 (w : eW) (px py high : Int) (hpx : eI px) (hhigh : eI high) (hp : 0 ≤ px ∧ px ≤ 56 ∧ 0 ≤ py ∧ py ≤ 40) (hh : 0 ≤ high ∧ high ≤ 200000) (ht : 1 ≤ w 17 3 ∧ w 17 3 ≤ 2520) : Cal mX5_laneAt [eR 16, (0, 3), (0, px), (0, py), (0, high)] w (some (0, rX5_laneAt3 w px py high)) w := by
  have d1 : 0 ≤ high / w 17 3 := Int.ediv_nonneg (by omega) (by omega)
  have d2 : high / w 17 3 ≤ high := Int.ediv_le_self _ (by omega)
  have d3 : 0 ≤ high % w 17 3 := Int.emod_nonneg _ (by omega)
  have d4 : high % w 17 3 < w 17 3 := Int.emod_lt_of_pos _ (by omega)
  have a1 : 0 < (w 17 3) := by omega
  unfold rX5_laneAt3
  refine Cal.of (by decide +kernel) (Nat.le_of_ble_eq_true rfl) ?_
  show Go _ 0 [(0, eR 16), (1, (0, 3)), (2, (0, px)), (3, (0, py)), (4, (0, high))] [] _ _ _
  refine go_aload_n (eD DX5_laneAt 0 rfl) rfl rfl (go_iload_n (eD DX5_laneAt 1 rfl) rfl rfl (?_))
  refine go_callV (ci := 5) [(0, 3)] (eD DX5_laneAt 2 rfl) ⟨eMem 3 159 rfl rfl, sX5_timeOf⟩ ⟨Nat.le_of_ble_eq_true rfl, Nat.le_of_ble_eq_true rfl⟩ (by decide) ⟨rfl, by decide, _, rfl, rfl⟩ rfl rfl (Nat.le_of_ble_eq_true rfl) (Cal.as (zX5_timeOf w 3 (by decide) ) (r2 := some (0, w 17 3)) (w2 := w) (by (try simp only [rX5_timeOf, if_pos a1]) <;> (try rfl)) rfl) (?_)
  refine go_istore (eD DX5_laneAt 3 rfl) (by decide) (go_iload (eD DX5_laneAt 4 rfl) rfl (go_if_leF (tgt := 20) (eD DX5_laneAt 5 rfl) rfl (show eI (w 17 3) from by omega) (Int.not_le.mpr a1) (?_)))
  refine go_iload (eD DX5_laneAt 6 rfl) rfl (go_iload (eD DX5_laneAt 7 rfl) rfl (go_irem (eD DX5_laneAt 8 rfl) (by omega) (show eI (w 17 3) from by omega) (by omega) (show 0 < (w 17 3) from by omega) (?_)))
  by_cases h1 : (high % (w 17 3)) = 0
  · refine go_if_eqT (tgt := 23) (eD DX5_laneAt 9 rfl) rfl (show eI (high % (w 17 3)) from by omega) h1 ?_
    refine go_iload (eD DX5_laneAt 12 rfl) rfl (go_iload (eD DX5_laneAt 13 rfl) rfl (go_idiv (eD DX5_laneAt 14 rfl) (by omega) (show eI (w 17 3) from by omega) (by omega) (show 0 < (w 17 3) from by omega) (go_istore (eD DX5_laneAt 15 rfl) (by decide) (go_iload_n (eD DX5_laneAt 16 rfl) rfl rfl (go_if_eqF (tgt := 39) (eD DX5_laneAt 17 rfl) rfl (by decide) (show ¬ ((3 : Int) = 0) from by decide) (?_))))))
    refine go_iload_n (eD DX5_laneAt 18 rfl) rfl rfl (go_iconst (eD DX5_laneAt 19 rfl) (go_icmp_neF (tgt := 43) (eD DX5_laneAt 20 rfl) rfl (by decide) (by decide) (not_not_intro (show (3 : Int) = 3 from by decide)) (?_)))
    refine go_iconst (eD DX5_laneAt 21 rfl) (go_goto (tgt := 44) (eD DX5_laneAt 22 rfl) rfl (go_istore (eD DX5_laneAt 24 rfl) (by decide) (go_iload_n (eD DX5_laneAt 25 rfl) rfl rfl (go_if_eqF (tgt := 55) (eD DX5_laneAt 26 rfl) rfl (by decide) (show ¬ ((3 : Int) = 0) from by decide) (?_)))))
    refine go_iload_n (eD DX5_laneAt 27 rfl) rfl rfl (go_iconst (eD DX5_laneAt 28 rfl) (go_icmp_neT (tgt := 59) (eD DX5_laneAt 29 rfl) rfl (by decide) (by decide) (show ¬ ((3 : Int) = 2) from by decide) (?_)))
    refine go_iload_n (eD DX5_laneAt 32 rfl) rfl rfl (go_istore (eD DX5_laneAt 33 rfl) (by decide) (go_iload (eD DX5_laneAt 34 rfl) rfl (go_if_eqF (tgt := 75) (eD DX5_laneAt 35 rfl) rfl (by decide) (show ¬ ((1 : Int) = 0) from by decide) (?_))))
    refine go_iload (eD DX5_laneAt 36 rfl) rfl (go_iload (eD DX5_laneAt 37 rfl) rfl (go_isub (eD DX5_laneAt 38 rfl) (go_goto (tgt := 80) (eD DX5_laneAt 39 rfl) rfl (go_istore (eD DX5_laneAt 43 rfl) (by decide) (go_iload (eD DX5_laneAt 44 rfl) rfl (?_))))))
    by_cases h2 : (px - (high / (w 17 3))) < 0
    · refine go_if_ltT (tgt := 94) (eD DX5_laneAt 45 rfl) rfl (show eI (px - (high / (w 17 3))) from by omega) h2 ?_
      simp only [if_pos h1, if_pos h2]
      exact go_bipush (eD DX5_laneAt 50 rfl) (by decide) (go_iret (eD DX5_laneAt 51 rfl) rfl)
    · refine go_if_ltF (tgt := 94) (eD DX5_laneAt 45 rfl) rfl (show eI (px - (high / (w 17 3))) from by omega) h2 ?_
      refine go_iload (eD DX5_laneAt 46 rfl) rfl (go_iconst (eD DX5_laneAt 47 rfl) (go_irem (eD DX5_laneAt 48 rfl) (show eI (px - (high / (w 17 3))) from by omega) (by decide) (show 0 ≤ (px - (high / (w 17 3))) from by omega) (show (0 : Int) < 4 from by decide) (?_)))
      by_cases h3 : ((px - (high / (w 17 3))) % 4) = 0
      · refine go_if_eqT (tgt := 97) (eD DX5_laneAt 49 rfl) rfl (show eI ((px - (high / (w 17 3))) % 4) from by omega) h3 ?_
        refine go_iload (eD DX5_laneAt 52 rfl) rfl (go_if_eqF (tgt := 111) (eD DX5_laneAt 53 rfl) rfl (by decide) (show ¬ ((1 : Int) = 0) from by decide) (?_))
        simp only [if_pos h1, if_neg h2, if_pos h3]
        exact go_iload (eD DX5_laneAt 54 rfl) rfl (go_iconst (eD DX5_laneAt 55 rfl) (go_idiv (eD DX5_laneAt 56 rfl) (show eI (px - (high / (w 17 3))) from by omega) (by decide) (show 0 ≤ (px - (high / (w 17 3))) from by omega) (show (0 : Int) < 4 from by decide) (go_iconst (eD DX5_laneAt 57 rfl) (go_isub (eD DX5_laneAt 58 rfl) (go_goto (tgt := 115) (eD DX5_laneAt 59 rfl) rfl (go_iret (eD DX5_laneAt 63 rfl) rfl))))))
      · refine go_if_eqF (tgt := 97) (eD DX5_laneAt 49 rfl) rfl (show eI ((px - (high / (w 17 3))) % 4) from by omega) h3 ?_
        simp only [if_pos h1, if_neg h2, if_neg h3]
        exact go_bipush (eD DX5_laneAt 50 rfl) (by decide) (go_iret (eD DX5_laneAt 51 rfl) rfl)
  · refine go_if_eqF (tgt := 23) (eD DX5_laneAt 9 rfl) rfl (show eI (high % (w 17 3)) from by omega) h1 ?_
    simp only [if_neg h1]
    exact go_bipush (eD DX5_laneAt 10 rfl) (by decide) (go_iret (eD DX5_laneAt 11 rfl) rfl)
set_option maxHeartbeats 4000000 in
set_option maxRecDepth 20000 in
theorem tX5_slopesAt_0 {r : Option eV} {w9 : eW} (w : eW) (px py high : Int) (k1 : Go mX5_slopesAt 6 [(0, eR 16), (1, (0, px)), (2, (0, py)), (3, (0, high)), (4, (0, 0)), (5, (0, 0))] [] w r w9) : Go mX5_slopesAt 0 [(0, eR 16), (1, (0, px)), (2, (0, py)), (3, (0, high))] [] w r w9 := by
  exact go_iconst (eD DX5_slopesAt 0 rfl) (go_istore (eD DX5_slopesAt 1 rfl) (by decide) (go_iconst (eD DX5_slopesAt 2 rfl) (go_istore (eD DX5_slopesAt 3 rfl) (by decide) (Go.pick [2, 3, 4, 5, 1, 0] rfl (k1)))))
set_option maxHeartbeats 4000000 in
set_option maxRecDepth 20000 in
theorem tX5_slopesAt0_6 {r : Option eV} {w9 : eW} (w : eW) (px py high set : Int) (hB : HH w) (hR : RR w px) (hp : 0 ≤ px ∧ px ≤ 56 ∧ 0 ≤ py ∧ py ≤ 40) (hh : 0 ≤ high ∧ high ≤ 200000) (ln : Int) (hl : Cal mX5_laneAt [eR 16, (0, 0), (0, px), (0, py), (0, high)] w (some (0, ln)) w) (hn : -9 ≤ ln ∧ ln ≤ 60000) (k1 : 0 < high → ln = (-9) → Go mX5_slopesAt 6 [(0, eR 16), (1, (0, px)), (2, (0, py)), (3, (0, high)), (4, (0, set)), (5, (0, 0 + 1))] [] w r w9) (k2 : 0 < high → ¬ (ln = (-9)) → high < (rT w px ln) → Go mX5_slopesAt 6 [(0, eR 16), (1, (0, px)), (2, (0, py)), (3, (0, high)), (4, (0, set)), (5, (0, 0 + 1))] [] w r w9) (k3 : 0 < high → ¬ (ln = (-9)) → ¬ (high < (rT w px ln)) → Go mX5_slopesAt 6 [(0, eR 16), (1, (0, px)), (2, (0, py)), (3, (0, high)), (4, (0, eOr set (1 * 2 ^ (0 : Int).toNat))), (5, (0, 0 + 1))] [] w r w9) (k4 : ¬ (0 < high) → r = some (0, set) ∧ w9 = w) : Go mX5_slopesAt 6 [(0, eR 16), (1, (0, px)), (2, (0, py)), (3, (0, high)), (4, (0, set)), (5, (0, 0))] [] w r w9 := by
  have := rT_b hB (px := px) (by omega) ln
  refine go_iload (eD DX5_slopesAt 4 rfl) rfl (go_iconst (eD DX5_slopesAt 5 rfl) (go_icmp_geF (tgt := 84) (eD DX5_slopesAt 6 rfl) rfl (by decide) (by decide) (Int.not_le.mpr (show (0 : Int) < 4 from by decide)) (?_)))
  refine go_iload_n (eD DX5_slopesAt 7 rfl) rfl rfl (?_)
  by_cases h1 : 0 < high
  · refine go_if_leF (tgt := 84) (eD DX5_slopesAt 8 rfl) rfl (by omega) (Int.not_le.mpr h1) ?_
    refine go_aload_n (eD DX5_slopesAt 9 rfl) rfl rfl (go_iload (eD DX5_slopesAt 10 rfl) rfl (go_iload_n (eD DX5_slopesAt 11 rfl) rfl rfl (go_iload_n (eD DX5_slopesAt 12 rfl) rfl rfl (go_iload_n (eD DX5_slopesAt 13 rfl) rfl rfl (go_callV (ci := 5) [(0, 0), (0, px), (0, py), (0, high)] (eD DX5_slopesAt 14 rfl) ⟨eMem 3 206 rfl rfl, sX5_laneAt⟩ ⟨Nat.le_of_ble_eq_true rfl, Nat.le_of_ble_eq_true rfl⟩ (by decide) ⟨rfl, by decide, _, rfl, rfl⟩ rfl rfl (Nat.le_of_ble_eq_true rfl) hl (go_istore (eD DX5_slopesAt 15 rfl) (by decide) (go_iload (eD DX5_slopesAt 16 rfl) rfl (go_if_eqT (tgt := 38) (eD DX5_slopesAt 17 rfl) rfl (by decide) (show (0 : Int) = 0 from by decide) (?_)))))))))
    refine go_aload_n (eD DX5_slopesAt 21 rfl) rfl rfl (go_iload_n (eD DX5_slopesAt 22 rfl) rfl rfl (go_iload (eD DX5_slopesAt 23 rfl) rfl (go_callV (ci := 5) [(0, px), (0, ln)] (eD DX5_slopesAt 24 rfl) ⟨eMem 3 184 rfl rfl, sX5_rowTime⟩ ⟨Nat.le_of_ble_eq_true rfl, Nat.le_of_ble_eq_true rfl⟩ (by decide) ⟨rfl, by decide, _, rfl, rfl⟩ rfl rfl (Nat.le_of_ble_eq_true rfl) (y_X5_rowTime w px ln (by omega) (by omega) hB hR) (go_goto (tgt := 54) (eD DX5_slopesAt 25 rfl) rfl (go_istore (eD DX5_slopesAt 29 rfl) (by decide) (go_iload (eD DX5_slopesAt 30 rfl) rfl (go_bipush (eD DX5_slopesAt 31 rfl) (by decide) (?_))))))))
    by_cases h2 : ln = (-9)
    · refine go_icmp_eqT (tgt := 78) (eD DX5_slopesAt 32 rfl) rfl (by omega) (by decide) h2 ?_
      exact go_iinc (eD DX5_slopesAt 42 rfl) rfl (by decide) (go_goto (tgt := 6) (eD DX5_slopesAt 43 rfl) rfl (Go.pick [3, 4, 5, 6, 7, 0] rfl (k1 h1 h2)))
    · refine go_icmp_eqF (tgt := 78) (eD DX5_slopesAt 32 rfl) rfl (by omega) (by decide) h2 ?_
      refine go_iload (eD DX5_slopesAt 33 rfl) rfl (go_iload_n (eD DX5_slopesAt 34 rfl) rfl rfl (?_))
      by_cases h3 : high < (rT w px ln)
      · refine go_icmp_gtT (tgt := 78) (eD DX5_slopesAt 35 rfl) rfl (show eI (rT w px ln) from by omega) (by omega) h3 ?_
        exact go_iinc (eD DX5_slopesAt 42 rfl) rfl (by decide) (go_goto (tgt := 6) (eD DX5_slopesAt 43 rfl) rfl (Go.pick [3, 4, 5, 6, 7, 0] rfl (k2 h1 h2 h3)))
      · refine go_icmp_gtF (tgt := 78) (eD DX5_slopesAt 35 rfl) rfl (show eI (rT w px ln) from by omega) (by omega) h3 ?_
        exact go_iload (eD DX5_slopesAt 36 rfl) rfl (go_iconst (eD DX5_slopesAt 37 rfl) (go_iload (eD DX5_slopesAt 38 rfl) rfl (go_ishl (eD DX5_slopesAt 39 rfl) (show (0 : Int) ≤ 0 ∧ (0 : Int) < 32 from by decide) (go_ior (eD DX5_slopesAt 40 rfl) (go_istore (eD DX5_slopesAt 41 rfl) (by decide) (go_iinc (eD DX5_slopesAt 42 rfl) rfl (by decide) (go_goto (tgt := 6) (eD DX5_slopesAt 43 rfl) rfl (Go.pick [4, 5, 6, 7, 1, 0] rfl (k3 h1 h2 h3)))))))))
  · refine go_if_leT (tgt := 84) (eD DX5_slopesAt 8 rfl) rfl (by omega) (Int.not_lt.mp h1) ?_
    rw [(k4 h1).1, (k4 h1).2]
    exact go_iload (eD DX5_slopesAt 44 rfl) rfl (go_iret (eD DX5_slopesAt 45 rfl) rfl)
set_option maxHeartbeats 4000000 in
set_option maxRecDepth 20000 in
theorem tX5_slopesAt1_6 {r : Option eV} {w9 : eW} (w : eW) (px py high set : Int) (hB : HH w) (hR : RR w px) (hp : 0 ≤ px ∧ px ≤ 56 ∧ 0 ≤ py ∧ py ≤ 40) (hh : 0 ≤ high ∧ high ≤ 200000) (ln : Int) (hl : Cal mX5_laneAt [eR 16, (0, 1), (0, px), (0, py), (0, high)] w (some (0, ln)) w) (hn : -9 ≤ ln ∧ ln ≤ 60000) (hc : 0 ≤ cT w ln ∧ cT w ln ≤ 200000) (k1 : 0 < high → ln = (-9) → Go mX5_slopesAt 6 [(0, eR 16), (1, (0, px)), (2, (0, py)), (3, (0, high)), (4, (0, set)), (5, (0, 1 + 1))] [] w r w9) (k2 : 0 < high → ¬ (ln = (-9)) → high < (cT w ln) → Go mX5_slopesAt 6 [(0, eR 16), (1, (0, px)), (2, (0, py)), (3, (0, high)), (4, (0, set)), (5, (0, 1 + 1))] [] w r w9) (k3 : 0 < high → ¬ (ln = (-9)) → ¬ (high < (cT w ln)) → Go mX5_slopesAt 6 [(0, eR 16), (1, (0, px)), (2, (0, py)), (3, (0, high)), (4, (0, eOr set (1 * 2 ^ (1 : Int).toNat))), (5, (0, 1 + 1))] [] w r w9) (k4 : ¬ (0 < high) → r = some (0, set) ∧ w9 = w) : Go mX5_slopesAt 6 [(0, eR 16), (1, (0, px)), (2, (0, py)), (3, (0, high)), (4, (0, set)), (5, (0, 1))] [] w r w9 := by
  refine go_iload (eD DX5_slopesAt 4 rfl) rfl (go_iconst (eD DX5_slopesAt 5 rfl) (go_icmp_geF (tgt := 84) (eD DX5_slopesAt 6 rfl) rfl (by decide) (by decide) (Int.not_le.mpr (show (1 : Int) < 4 from by decide)) (?_)))
  refine go_iload_n (eD DX5_slopesAt 7 rfl) rfl rfl (?_)
  by_cases h1 : 0 < high
  · refine go_if_leF (tgt := 84) (eD DX5_slopesAt 8 rfl) rfl (by omega) (Int.not_le.mpr h1) ?_
    refine go_aload_n (eD DX5_slopesAt 9 rfl) rfl rfl (go_iload (eD DX5_slopesAt 10 rfl) rfl (go_iload_n (eD DX5_slopesAt 11 rfl) rfl rfl (go_iload_n (eD DX5_slopesAt 12 rfl) rfl rfl (go_iload_n (eD DX5_slopesAt 13 rfl) rfl rfl (go_callV (ci := 5) [(0, 1), (0, px), (0, py), (0, high)] (eD DX5_slopesAt 14 rfl) ⟨eMem 3 206 rfl rfl, sX5_laneAt⟩ ⟨Nat.le_of_ble_eq_true rfl, Nat.le_of_ble_eq_true rfl⟩ (by decide) ⟨rfl, by decide, _, rfl, rfl⟩ rfl rfl (Nat.le_of_ble_eq_true rfl) hl (go_istore (eD DX5_slopesAt 15 rfl) (by decide) (go_iload (eD DX5_slopesAt 16 rfl) rfl (go_if_eqF (tgt := 38) (eD DX5_slopesAt 17 rfl) rfl (by decide) (show ¬ ((1 : Int) = 0) from by decide) (?_)))))))))
    refine go_iload (eD DX5_slopesAt 18 rfl) rfl (go_iconst (eD DX5_slopesAt 19 rfl) (go_icmp_neT (tgt := 48) (eD DX5_slopesAt 20 rfl) rfl (by decide) (by decide) (show ¬ ((1 : Int) = 2) from by decide) (?_)))
    refine go_aload_n (eD DX5_slopesAt 26 rfl) rfl rfl (go_iload (eD DX5_slopesAt 27 rfl) rfl (go_callV (ci := 5) [(0, ln)] (eD DX5_slopesAt 28 rfl) ⟨eMem 3 210 rfl rfl, sX5_columnTime⟩ ⟨Nat.le_of_ble_eq_true rfl, Nat.le_of_ble_eq_true rfl⟩ (by decide) ⟨rfl, by decide, _, rfl, rfl⟩ rfl rfl (Nat.le_of_ble_eq_true rfl) (y_X5_columnTime w ln (by omega)) (go_istore (eD DX5_slopesAt 29 rfl) (by decide) (go_iload (eD DX5_slopesAt 30 rfl) rfl (go_bipush (eD DX5_slopesAt 31 rfl) (by decide) (?_))))))
    by_cases h2 : ln = (-9)
    · refine go_icmp_eqT (tgt := 78) (eD DX5_slopesAt 32 rfl) rfl (by omega) (by decide) h2 ?_
      exact go_iinc (eD DX5_slopesAt 42 rfl) rfl (by decide) (go_goto (tgt := 6) (eD DX5_slopesAt 43 rfl) rfl (Go.pick [3, 4, 5, 6, 7, 0] rfl (k1 h1 h2)))
    · refine go_icmp_eqF (tgt := 78) (eD DX5_slopesAt 32 rfl) rfl (by omega) (by decide) h2 ?_
      refine go_iload (eD DX5_slopesAt 33 rfl) rfl (go_iload_n (eD DX5_slopesAt 34 rfl) rfl rfl (?_))
      by_cases h3 : high < (cT w ln)
      · refine go_icmp_gtT (tgt := 78) (eD DX5_slopesAt 35 rfl) rfl (show eI (cT w ln) from by omega) (by omega) h3 ?_
        exact go_iinc (eD DX5_slopesAt 42 rfl) rfl (by decide) (go_goto (tgt := 6) (eD DX5_slopesAt 43 rfl) rfl (Go.pick [3, 4, 5, 6, 7, 0] rfl (k2 h1 h2 h3)))
      · refine go_icmp_gtF (tgt := 78) (eD DX5_slopesAt 35 rfl) rfl (show eI (cT w ln) from by omega) (by omega) h3 ?_
        exact go_iload (eD DX5_slopesAt 36 rfl) rfl (go_iconst (eD DX5_slopesAt 37 rfl) (go_iload (eD DX5_slopesAt 38 rfl) rfl (go_ishl (eD DX5_slopesAt 39 rfl) (show (0 : Int) ≤ 1 ∧ (1 : Int) < 32 from by decide) (go_ior (eD DX5_slopesAt 40 rfl) (go_istore (eD DX5_slopesAt 41 rfl) (by decide) (go_iinc (eD DX5_slopesAt 42 rfl) rfl (by decide) (go_goto (tgt := 6) (eD DX5_slopesAt 43 rfl) rfl (Go.pick [4, 5, 6, 7, 1, 0] rfl (k3 h1 h2 h3)))))))))
  · refine go_if_leT (tgt := 84) (eD DX5_slopesAt 8 rfl) rfl (by omega) (Int.not_lt.mp h1) ?_
    rw [(k4 h1).1, (k4 h1).2]
    exact go_iload (eD DX5_slopesAt 44 rfl) rfl (go_iret (eD DX5_slopesAt 45 rfl) rfl)
set_option maxHeartbeats 4000000 in
set_option maxRecDepth 20000 in
theorem tX5_slopesAt2_6 {r : Option eV} {w9 : eW} (w : eW) (px py high set : Int) (hB : HH w) (hR : RR w px) (hp : 0 ≤ px ∧ px ≤ 56 ∧ 0 ≤ py ∧ py ≤ 40) (hh : 0 ≤ high ∧ high ≤ 200000) (ln : Int) (hl : Cal mX5_laneAt [eR 16, (0, 2), (0, px), (0, py), (0, high)] w (some (0, ln)) w) (hn : -9 ≤ ln ∧ ln ≤ 60000) (k1 : 0 < high → ln = (-9) → Go mX5_slopesAt 6 [(0, eR 16), (1, (0, px)), (2, (0, py)), (3, (0, high)), (4, (0, set)), (5, (0, 2 + 1))] [] w r w9) (k2 : 0 < high → ¬ (ln = (-9)) → high < (rT w px ln) → Go mX5_slopesAt 6 [(0, eR 16), (1, (0, px)), (2, (0, py)), (3, (0, high)), (4, (0, set)), (5, (0, 2 + 1))] [] w r w9) (k3 : 0 < high → ¬ (ln = (-9)) → ¬ (high < (rT w px ln)) → Go mX5_slopesAt 6 [(0, eR 16), (1, (0, px)), (2, (0, py)), (3, (0, high)), (4, (0, eOr set (1 * 2 ^ (2 : Int).toNat))), (5, (0, 2 + 1))] [] w r w9) (k4 : ¬ (0 < high) → r = some (0, set) ∧ w9 = w) : Go mX5_slopesAt 6 [(0, eR 16), (1, (0, px)), (2, (0, py)), (3, (0, high)), (4, (0, set)), (5, (0, 2))] [] w r w9 := by
  have := rT_b hB (px := px) (by omega) ln
  refine go_iload (eD DX5_slopesAt 4 rfl) rfl (go_iconst (eD DX5_slopesAt 5 rfl) (go_icmp_geF (tgt := 84) (eD DX5_slopesAt 6 rfl) rfl (by decide) (by decide) (Int.not_le.mpr (show (2 : Int) < 4 from by decide)) (?_)))
  refine go_iload_n (eD DX5_slopesAt 7 rfl) rfl rfl (?_)
  by_cases h1 : 0 < high
  · refine go_if_leF (tgt := 84) (eD DX5_slopesAt 8 rfl) rfl (by omega) (Int.not_le.mpr h1) ?_
    refine go_aload_n (eD DX5_slopesAt 9 rfl) rfl rfl (go_iload (eD DX5_slopesAt 10 rfl) rfl (go_iload_n (eD DX5_slopesAt 11 rfl) rfl rfl (go_iload_n (eD DX5_slopesAt 12 rfl) rfl rfl (go_iload_n (eD DX5_slopesAt 13 rfl) rfl rfl (go_callV (ci := 5) [(0, 2), (0, px), (0, py), (0, high)] (eD DX5_slopesAt 14 rfl) ⟨eMem 3 206 rfl rfl, sX5_laneAt⟩ ⟨Nat.le_of_ble_eq_true rfl, Nat.le_of_ble_eq_true rfl⟩ (by decide) ⟨rfl, by decide, _, rfl, rfl⟩ rfl rfl (Nat.le_of_ble_eq_true rfl) hl (go_istore (eD DX5_slopesAt 15 rfl) (by decide) (go_iload (eD DX5_slopesAt 16 rfl) rfl (go_if_eqF (tgt := 38) (eD DX5_slopesAt 17 rfl) rfl (by decide) (show ¬ ((2 : Int) = 0) from by decide) (?_)))))))))
    refine go_iload (eD DX5_slopesAt 18 rfl) rfl (go_iconst (eD DX5_slopesAt 19 rfl) (go_icmp_neF (tgt := 48) (eD DX5_slopesAt 20 rfl) rfl (by decide) (by decide) (not_not_intro (show (2 : Int) = 2 from by decide)) (?_)))
    refine go_aload_n (eD DX5_slopesAt 21 rfl) rfl rfl (go_iload_n (eD DX5_slopesAt 22 rfl) rfl rfl (go_iload (eD DX5_slopesAt 23 rfl) rfl (go_callV (ci := 5) [(0, px), (0, ln)] (eD DX5_slopesAt 24 rfl) ⟨eMem 3 184 rfl rfl, sX5_rowTime⟩ ⟨Nat.le_of_ble_eq_true rfl, Nat.le_of_ble_eq_true rfl⟩ (by decide) ⟨rfl, by decide, _, rfl, rfl⟩ rfl rfl (Nat.le_of_ble_eq_true rfl) (y_X5_rowTime w px ln (by omega) (by omega) hB hR) (go_goto (tgt := 54) (eD DX5_slopesAt 25 rfl) rfl (go_istore (eD DX5_slopesAt 29 rfl) (by decide) (go_iload (eD DX5_slopesAt 30 rfl) rfl (go_bipush (eD DX5_slopesAt 31 rfl) (by decide) (?_))))))))
    by_cases h2 : ln = (-9)
    · refine go_icmp_eqT (tgt := 78) (eD DX5_slopesAt 32 rfl) rfl (by omega) (by decide) h2 ?_
      exact go_iinc (eD DX5_slopesAt 42 rfl) rfl (by decide) (go_goto (tgt := 6) (eD DX5_slopesAt 43 rfl) rfl (Go.pick [3, 4, 5, 6, 7, 0] rfl (k1 h1 h2)))
    · refine go_icmp_eqF (tgt := 78) (eD DX5_slopesAt 32 rfl) rfl (by omega) (by decide) h2 ?_
      refine go_iload (eD DX5_slopesAt 33 rfl) rfl (go_iload_n (eD DX5_slopesAt 34 rfl) rfl rfl (?_))
      by_cases h3 : high < (rT w px ln)
      · refine go_icmp_gtT (tgt := 78) (eD DX5_slopesAt 35 rfl) rfl (show eI (rT w px ln) from by omega) (by omega) h3 ?_
        exact go_iinc (eD DX5_slopesAt 42 rfl) rfl (by decide) (go_goto (tgt := 6) (eD DX5_slopesAt 43 rfl) rfl (Go.pick [3, 4, 5, 6, 7, 0] rfl (k2 h1 h2 h3)))
      · refine go_icmp_gtF (tgt := 78) (eD DX5_slopesAt 35 rfl) rfl (show eI (rT w px ln) from by omega) (by omega) h3 ?_
        exact go_iload (eD DX5_slopesAt 36 rfl) rfl (go_iconst (eD DX5_slopesAt 37 rfl) (go_iload (eD DX5_slopesAt 38 rfl) rfl (go_ishl (eD DX5_slopesAt 39 rfl) (show (0 : Int) ≤ 2 ∧ (2 : Int) < 32 from by decide) (go_ior (eD DX5_slopesAt 40 rfl) (go_istore (eD DX5_slopesAt 41 rfl) (by decide) (go_iinc (eD DX5_slopesAt 42 rfl) rfl (by decide) (go_goto (tgt := 6) (eD DX5_slopesAt 43 rfl) rfl (Go.pick [4, 5, 6, 7, 1, 0] rfl (k3 h1 h2 h3)))))))))
  · refine go_if_leT (tgt := 84) (eD DX5_slopesAt 8 rfl) rfl (by omega) (Int.not_lt.mp h1) ?_
    rw [(k4 h1).1, (k4 h1).2]
    exact go_iload (eD DX5_slopesAt 44 rfl) rfl (go_iret (eD DX5_slopesAt 45 rfl) rfl)
set_option maxHeartbeats 4000000 in
set_option maxRecDepth 20000 in
theorem tX5_slopesAt3_6 {r : Option eV} {w9 : eW} (w : eW) (px py high set : Int) (hB : HH w) (hR : RR w px) (hp : 0 ≤ px ∧ px ≤ 56 ∧ 0 ≤ py ∧ py ≤ 40) (hh : 0 ≤ high ∧ high ≤ 200000) (ln : Int) (hl : Cal mX5_laneAt [eR 16, (0, 3), (0, px), (0, py), (0, high)] w (some (0, ln)) w) (hn : -9 ≤ ln ∧ ln ≤ 60000) (hc : 0 ≤ cT w ln ∧ cT w ln ≤ 200000) (k1 : 0 < high → ln = (-9) → Go mX5_slopesAt 6 [(0, eR 16), (1, (0, px)), (2, (0, py)), (3, (0, high)), (4, (0, set)), (5, (0, 3 + 1))] [] w r w9) (k2 : 0 < high → ¬ (ln = (-9)) → high < (cT w ln) → Go mX5_slopesAt 6 [(0, eR 16), (1, (0, px)), (2, (0, py)), (3, (0, high)), (4, (0, set)), (5, (0, 3 + 1))] [] w r w9) (k3 : 0 < high → ¬ (ln = (-9)) → ¬ (high < (cT w ln)) → Go mX5_slopesAt 6 [(0, eR 16), (1, (0, px)), (2, (0, py)), (3, (0, high)), (4, (0, eOr set (1 * 2 ^ (3 : Int).toNat))), (5, (0, 3 + 1))] [] w r w9) (k4 : ¬ (0 < high) → r = some (0, set) ∧ w9 = w) : Go mX5_slopesAt 6 [(0, eR 16), (1, (0, px)), (2, (0, py)), (3, (0, high)), (4, (0, set)), (5, (0, 3))] [] w r w9 := by
  refine go_iload (eD DX5_slopesAt 4 rfl) rfl (go_iconst (eD DX5_slopesAt 5 rfl) (go_icmp_geF (tgt := 84) (eD DX5_slopesAt 6 rfl) rfl (by decide) (by decide) (Int.not_le.mpr (show (3 : Int) < 4 from by decide)) (?_)))
  refine go_iload_n (eD DX5_slopesAt 7 rfl) rfl rfl (?_)
  by_cases h1 : 0 < high
  · refine go_if_leF (tgt := 84) (eD DX5_slopesAt 8 rfl) rfl (by omega) (Int.not_le.mpr h1) ?_
    refine go_aload_n (eD DX5_slopesAt 9 rfl) rfl rfl (go_iload (eD DX5_slopesAt 10 rfl) rfl (go_iload_n (eD DX5_slopesAt 11 rfl) rfl rfl (go_iload_n (eD DX5_slopesAt 12 rfl) rfl rfl (go_iload_n (eD DX5_slopesAt 13 rfl) rfl rfl (go_callV (ci := 5) [(0, 3), (0, px), (0, py), (0, high)] (eD DX5_slopesAt 14 rfl) ⟨eMem 3 206 rfl rfl, sX5_laneAt⟩ ⟨Nat.le_of_ble_eq_true rfl, Nat.le_of_ble_eq_true rfl⟩ (by decide) ⟨rfl, by decide, _, rfl, rfl⟩ rfl rfl (Nat.le_of_ble_eq_true rfl) hl (go_istore (eD DX5_slopesAt 15 rfl) (by decide) (go_iload (eD DX5_slopesAt 16 rfl) rfl (go_if_eqF (tgt := 38) (eD DX5_slopesAt 17 rfl) rfl (by decide) (show ¬ ((3 : Int) = 0) from by decide) (?_)))))))))
    refine go_iload (eD DX5_slopesAt 18 rfl) rfl (go_iconst (eD DX5_slopesAt 19 rfl) (go_icmp_neT (tgt := 48) (eD DX5_slopesAt 20 rfl) rfl (by decide) (by decide) (show ¬ ((3 : Int) = 2) from by decide) (?_)))
    refine go_aload_n (eD DX5_slopesAt 26 rfl) rfl rfl (go_iload (eD DX5_slopesAt 27 rfl) rfl (go_callV (ci := 5) [(0, ln)] (eD DX5_slopesAt 28 rfl) ⟨eMem 3 210 rfl rfl, sX5_columnTime⟩ ⟨Nat.le_of_ble_eq_true rfl, Nat.le_of_ble_eq_true rfl⟩ (by decide) ⟨rfl, by decide, _, rfl, rfl⟩ rfl rfl (Nat.le_of_ble_eq_true rfl) (y_X5_columnTime w ln (by omega)) (go_istore (eD DX5_slopesAt 29 rfl) (by decide) (go_iload (eD DX5_slopesAt 30 rfl) rfl (go_bipush (eD DX5_slopesAt 31 rfl) (by decide) (?_))))))
    by_cases h2 : ln = (-9)
    · refine go_icmp_eqT (tgt := 78) (eD DX5_slopesAt 32 rfl) rfl (by omega) (by decide) h2 ?_
      exact go_iinc (eD DX5_slopesAt 42 rfl) rfl (by decide) (go_goto (tgt := 6) (eD DX5_slopesAt 43 rfl) rfl (Go.pick [3, 4, 5, 6, 7, 0] rfl (k1 h1 h2)))
    · refine go_icmp_eqF (tgt := 78) (eD DX5_slopesAt 32 rfl) rfl (by omega) (by decide) h2 ?_
      refine go_iload (eD DX5_slopesAt 33 rfl) rfl (go_iload_n (eD DX5_slopesAt 34 rfl) rfl rfl (?_))
      by_cases h3 : high < (cT w ln)
      · refine go_icmp_gtT (tgt := 78) (eD DX5_slopesAt 35 rfl) rfl (show eI (cT w ln) from by omega) (by omega) h3 ?_
        exact go_iinc (eD DX5_slopesAt 42 rfl) rfl (by decide) (go_goto (tgt := 6) (eD DX5_slopesAt 43 rfl) rfl (Go.pick [3, 4, 5, 6, 7, 0] rfl (k2 h1 h2 h3)))
      · refine go_icmp_gtF (tgt := 78) (eD DX5_slopesAt 35 rfl) rfl (show eI (cT w ln) from by omega) (by omega) h3 ?_
        exact go_iload (eD DX5_slopesAt 36 rfl) rfl (go_iconst (eD DX5_slopesAt 37 rfl) (go_iload (eD DX5_slopesAt 38 rfl) rfl (go_ishl (eD DX5_slopesAt 39 rfl) (show (0 : Int) ≤ 3 ∧ (3 : Int) < 32 from by decide) (go_ior (eD DX5_slopesAt 40 rfl) (go_istore (eD DX5_slopesAt 41 rfl) (by decide) (go_iinc (eD DX5_slopesAt 42 rfl) rfl (by decide) (go_goto (tgt := 6) (eD DX5_slopesAt 43 rfl) rfl (Go.pick [4, 5, 6, 7, 1, 0] rfl (k3 h1 h2 h3)))))))))
  · refine go_if_leT (tgt := 84) (eD DX5_slopesAt 8 rfl) rfl (by omega) (Int.not_lt.mp h1) ?_
    rw [(k4 h1).1, (k4 h1).2]
    exact go_iload (eD DX5_slopesAt 44 rfl) rfl (go_iret (eD DX5_slopesAt 45 rfl) rfl)
set_option maxHeartbeats 4000000 in
set_option maxRecDepth 20000 in
theorem tX5_slopesAt4_6 {r : Option eV} {w9 : eW} (w : eW) (px py high set : Int) (hB : HH w) (hR : RR w px) (hp : 0 ≤ px ∧ px ≤ 56 ∧ 0 ≤ py ∧ py ≤ 40) (hh : 0 ≤ high ∧ high ≤ 200000) (k1 : r = some (0, set) ∧ w9 = w) : Go mX5_slopesAt 6 [(0, eR 16), (1, (0, px)), (2, (0, py)), (3, (0, high)), (4, (0, set)), (5, (0, 4))] [] w r w9 := by
  refine go_iload (eD DX5_slopesAt 4 rfl) rfl (go_iconst (eD DX5_slopesAt 5 rfl) (go_icmp_geT (tgt := 84) (eD DX5_slopesAt 6 rfl) rfl (by decide) (by decide) (Int.not_lt.mp (show ¬ ((4 : Int) < 4) from by decide)) (?_)))
  rw [(k1).1, (k1).2]
  exact go_iload (eD DX5_slopesAt 44 rfl) rfl (go_iret (eD DX5_slopesAt 45 rfl) rfl)
set_option maxHeartbeats 4000000 in
set_option maxRecDepth 20000 in
theorem tX5_firstTouched_0 {r : Option eV} {w9 : eW} (w : eW) (lane place high ah bh : Int) (k1 : Go mX5_firstTouched 3 [(0, eR 16), (1, (0, lane)), (2, (0, place)), (3, (0, high)), (4, (0, ah)), (5, (0, bh)), (6, (0, 0))] [] w r w9) : Go mX5_firstTouched 0 [(0, eR 16), (1, (0, lane)), (2, (0, place)), (3, (0, high)), (4, (0, ah)), (5, (0, bh))] [] w r w9 := by
  exact go_iconst (eD DX5_firstTouched 0 rfl) (go_istore (eD DX5_firstTouched 1 rfl) (by decide) (Go.pick [1, 2, 3, 4, 5, 6, 0] rfl (k1)))
set_option maxHeartbeats 4000000 in
set_option maxRecDepth 20000 in
theorem tX5_firstTouchedE_3 {r : Option eV} {w9 : eW} (w : eW) (lane place high i : Int) (hb : 0 ≤ lane ∧ lane < 16384) (hi : 0 ≤ i ∧ i ≤ 14) (hh : eI high) (ha : eI ((4 * i - place) * w 17 1)) (hc : eI ((place - 4 * (i + 1)) * w 17 3)) (k1 : i < 14 → high < (((4 * i) - place) * (w 17 1)) → Go mX5_firstTouched 3 [(0, eR 16), (1, (0, lane)), (2, (0, place)), (3, (0, high)), (4, (0, 1)), (5, (0, 3)), (6, (0, i + 1))] [] w r w9) (k2 : i < 14 → ¬ (high < (((4 * i) - place) * (w 17 1))) → high < ((place - (4 * (i + 1))) * (w 17 3)) → Go mX5_firstTouched 3 [(0, eR 16), (1, (0, lane)), (2, (0, place)), (3, (0, high)), (4, (0, 1)), (5, (0, 3)), (6, (0, i + 1))] [] w r w9) (k3 : i < 14 → ¬ (high < (((4 * i) - place) * (w 17 1))) → ¬ (high < ((place - (4 * (i + 1))) * (w 17 3))) → hb14 lane i → r = some (0, i) ∧ w9 = w) (k4 : i < 14 → ¬ (high < (((4 * i) - place) * (w 17 1))) → ¬ (high < ((place - (4 * (i + 1))) * (w 17 3))) → ¬ (hb14 lane i) → Go mX5_firstTouched 3 [(0, eR 16), (1, (0, lane)), (2, (0, place)), (3, (0, high)), (4, (0, 1)), (5, (0, 3)), (6, (0, i + 1))] [] w r w9) (k5 : ¬ (i < 14) → r = some (0, (-1)) ∧ w9 = w) : Go mX5_firstTouched 3 [(0, eR 16), (1, (0, lane)), (2, (0, place)), (3, (0, high)), (4, (0, 1)), (5, (0, 3)), (6, (0, i))] [] w r w9 := by
  refine go_iload (eD DX5_firstTouched 2 rfl) rfl (go_bipush (eD DX5_firstTouched 3 rfl) (by decide) (?_))
  by_cases h1 : i < 14
  · refine go_icmp_geF (tgt := 76) (eD DX5_firstTouched 4 rfl) rfl (by omega) (by decide) (Int.not_le.mpr h1) ?_
    refine go_iconst (eD DX5_firstTouched 5 rfl) (go_iload (eD DX5_firstTouched 6 rfl) rfl (go_imul (eD DX5_firstTouched 7 rfl) (go_iload_n (eD DX5_firstTouched 8 rfl) rfl rfl (go_isub (eD DX5_firstTouched 9 rfl) (go_aload_n (eD DX5_firstTouched 10 rfl) rfl rfl (go_iload (eD DX5_firstTouched 11 rfl) rfl (?_)))))))
    refine go_callV (ci := 5) [(0, 1)] (eD DX5_firstTouched 12 rfl) ⟨eMem 3 159 rfl rfl, sX5_timeOf⟩ ⟨Nat.le_of_ble_eq_true rfl, Nat.le_of_ble_eq_true rfl⟩ (by decide) ⟨rfl, by decide, _, rfl, rfl⟩ rfl rfl (Nat.le_of_ble_eq_true rfl) (Cal.as (zX5_timeOf w 1 (by decide) ) (r2 := some (0, w 17 1)) (w2 := w) (by (try simp only [rX5_timeOf, if_pos h1]) <;> (try rfl)) rfl) (?_)
    refine go_imul (eD DX5_firstTouched 13 rfl) (go_iload_n (eD DX5_firstTouched 14 rfl) rfl rfl (?_))
    by_cases h2 : high < (((4 * i) - place) * (w 17 1))
    · refine go_icmp_gtT (tgt := 50) (eD DX5_firstTouched 15 rfl) rfl (show eI (((4 * i) - place) * (w 17 1)) from by omega) (by omega) h2 ?_
      refine go_iconst (eD DX5_firstTouched 31 rfl) (go_istore (eD DX5_firstTouched 32 rfl) (by decide) (go_iload (eD DX5_firstTouched 33 rfl) rfl (go_if_eqT (tgt := 70) (eD DX5_firstTouched 34 rfl) rfl (by decide) (show (0 : Int) = 0 from by decide) (?_))))
      exact go_iinc (eD DX5_firstTouched 41 rfl) rfl (by decide) (go_goto (tgt := 3) (eD DX5_firstTouched 42 rfl) rfl (Go.pick [2, 3, 4, 5, 6, 7, 0] rfl (k1 h1 h2)))
    · refine go_icmp_gtF (tgt := 50) (eD DX5_firstTouched 15 rfl) rfl (show eI (((4 * i) - place) * (w 17 1)) from by omega) (by omega) h2 ?_
      refine go_iload_n (eD DX5_firstTouched 16 rfl) rfl rfl (go_iconst (eD DX5_firstTouched 17 rfl) (go_iload (eD DX5_firstTouched 18 rfl) rfl (go_iconst (eD DX5_firstTouched 19 rfl) (go_iadd (eD DX5_firstTouched 20 rfl) (go_imul (eD DX5_firstTouched 21 rfl) (go_isub (eD DX5_firstTouched 22 rfl) (go_aload_n (eD DX5_firstTouched 23 rfl) rfl rfl (go_iload (eD DX5_firstTouched 24 rfl) rfl (?_)))))))))
      refine go_callV (ci := 5) [(0, 3)] (eD DX5_firstTouched 25 rfl) ⟨eMem 3 159 rfl rfl, sX5_timeOf⟩ ⟨Nat.le_of_ble_eq_true rfl, Nat.le_of_ble_eq_true rfl⟩ (by decide) ⟨rfl, by decide, _, rfl, rfl⟩ rfl rfl (Nat.le_of_ble_eq_true rfl) (Cal.as (zX5_timeOf w 3 (by decide) ) (r2 := some (0, w 17 3)) (w2 := w) (by (try simp only [rX5_timeOf, if_pos h1, if_neg h2]) <;> (try rfl)) rfl) (?_)
      refine go_imul (eD DX5_firstTouched 26 rfl) (go_iload_n (eD DX5_firstTouched 27 rfl) rfl rfl (?_))
      by_cases h3 : high < ((place - (4 * (i + 1))) * (w 17 3))
      · refine go_icmp_gtT (tgt := 50) (eD DX5_firstTouched 28 rfl) rfl (show eI ((place - (4 * (i + 1))) * (w 17 3)) from by omega) (by omega) h3 ?_
        refine go_iconst (eD DX5_firstTouched 31 rfl) (go_istore (eD DX5_firstTouched 32 rfl) (by decide) (go_iload (eD DX5_firstTouched 33 rfl) rfl (go_if_eqT (tgt := 70) (eD DX5_firstTouched 34 rfl) rfl (by decide) (show (0 : Int) = 0 from by decide) (?_))))
        exact go_iinc (eD DX5_firstTouched 41 rfl) rfl (by decide) (go_goto (tgt := 3) (eD DX5_firstTouched 42 rfl) rfl (Go.pick [2, 3, 4, 5, 6, 7, 0] rfl (k2 h1 h2 h3)))
      · refine go_icmp_gtF (tgt := 50) (eD DX5_firstTouched 28 rfl) rfl (show eI ((place - (4 * (i + 1))) * (w 17 3)) from by omega) (by omega) h3 ?_
        refine go_iconst (eD DX5_firstTouched 29 rfl) (go_goto (tgt := 51) (eD DX5_firstTouched 30 rfl) rfl (go_istore (eD DX5_firstTouched 32 rfl) (by decide) (go_iload (eD DX5_firstTouched 33 rfl) rfl (go_if_eqF (tgt := 70) (eD DX5_firstTouched 34 rfl) rfl (by decide) (show ¬ ((1 : Int) = 0) from by decide) (?_)))))
        refine go_iload_n (eD DX5_firstTouched 35 rfl) rfl rfl (go_iload (eD DX5_firstTouched 36 rfl) rfl (go_callS [(0, lane), (0, i)] (eD DX5_firstTouched 37 rfl) ⟨eMem 3 166 rfl rfl, sX5_hasBit⟩ ⟨Nat.le_of_ble_eq_true rfl, Nat.le_of_ble_eq_true rfl⟩ rfl rfl (Nat.le_of_ble_eq_true rfl) (y_b_X5_hasBit w lane i (by omega) (by omega)) (?_)))
        by_cases h4 : hb14 lane i
        · refine go_if_eqF (tgt := 70) (eD DX5_firstTouched 38 rfl) rfl (eI_pI _) (pI1 h4) ?_
          rw [(k3 h1 h2 h3 h4).1, (k3 h1 h2 h3 h4).2]
          exact go_iload (eD DX5_firstTouched 39 rfl) rfl (go_iret (eD DX5_firstTouched 40 rfl) rfl)
        · refine go_if_eqT (tgt := 70) (eD DX5_firstTouched 38 rfl) rfl (eI_pI _) (pI0 h4) ?_
          exact go_iinc (eD DX5_firstTouched 41 rfl) rfl (by decide) (go_goto (tgt := 3) (eD DX5_firstTouched 42 rfl) rfl (Go.pick [2, 3, 4, 5, 6, 7, 0] rfl (k4 h1 h2 h3 h4)))
  · refine go_icmp_geT (tgt := 76) (eD DX5_firstTouched 4 rfl) rfl (by omega) (by decide) (Int.not_lt.mp h1) ?_
    rw [(k5 h1).1, (k5 h1).2]
    exact go_iconst (eD DX5_firstTouched 43 rfl) (go_iret (eD DX5_firstTouched 44 rfl) rfl)
set_option maxHeartbeats 4000000 in
set_option maxRecDepth 20000 in
theorem tX5_firstTouchedS_3 {r : Option eV} {w9 : eW} (w : eW) (lane place high i : Int) (hb : 0 ≤ lane ∧ lane < 16384) (hi : 0 ≤ i ∧ i ≤ 14) (hh : eI high) (ha : eI ((4 * i - place) * w 17 2)) (hc : eI ((place - 4 * (i + 1)) * w 17 0)) (k1 : i < 14 → high < (((4 * i) - place) * (w 17 2)) → Go mX5_firstTouched 3 [(0, eR 16), (1, (0, lane)), (2, (0, place)), (3, (0, high)), (4, (0, 2)), (5, (0, 0)), (6, (0, i + 1))] [] w r w9) (k2 : i < 14 → ¬ (high < (((4 * i) - place) * (w 17 2))) → high < ((place - (4 * (i + 1))) * (w 17 0)) → Go mX5_firstTouched 3 [(0, eR 16), (1, (0, lane)), (2, (0, place)), (3, (0, high)), (4, (0, 2)), (5, (0, 0)), (6, (0, i + 1))] [] w r w9) (k3 : i < 14 → ¬ (high < (((4 * i) - place) * (w 17 2))) → ¬ (high < ((place - (4 * (i + 1))) * (w 17 0))) → hb14 lane i → r = some (0, i) ∧ w9 = w) (k4 : i < 14 → ¬ (high < (((4 * i) - place) * (w 17 2))) → ¬ (high < ((place - (4 * (i + 1))) * (w 17 0))) → ¬ (hb14 lane i) → Go mX5_firstTouched 3 [(0, eR 16), (1, (0, lane)), (2, (0, place)), (3, (0, high)), (4, (0, 2)), (5, (0, 0)), (6, (0, i + 1))] [] w r w9) (k5 : ¬ (i < 14) → r = some (0, (-1)) ∧ w9 = w) : Go mX5_firstTouched 3 [(0, eR 16), (1, (0, lane)), (2, (0, place)), (3, (0, high)), (4, (0, 2)), (5, (0, 0)), (6, (0, i))] [] w r w9 := by
  refine go_iload (eD DX5_firstTouched 2 rfl) rfl (go_bipush (eD DX5_firstTouched 3 rfl) (by decide) (?_))
  by_cases h1 : i < 14
  · refine go_icmp_geF (tgt := 76) (eD DX5_firstTouched 4 rfl) rfl (by omega) (by decide) (Int.not_le.mpr h1) ?_
    refine go_iconst (eD DX5_firstTouched 5 rfl) (go_iload (eD DX5_firstTouched 6 rfl) rfl (go_imul (eD DX5_firstTouched 7 rfl) (go_iload_n (eD DX5_firstTouched 8 rfl) rfl rfl (go_isub (eD DX5_firstTouched 9 rfl) (go_aload_n (eD DX5_firstTouched 10 rfl) rfl rfl (go_iload (eD DX5_firstTouched 11 rfl) rfl (?_)))))))
    refine go_callV (ci := 5) [(0, 2)] (eD DX5_firstTouched 12 rfl) ⟨eMem 3 159 rfl rfl, sX5_timeOf⟩ ⟨Nat.le_of_ble_eq_true rfl, Nat.le_of_ble_eq_true rfl⟩ (by decide) ⟨rfl, by decide, _, rfl, rfl⟩ rfl rfl (Nat.le_of_ble_eq_true rfl) (Cal.as (zX5_timeOf w 2 (by decide) ) (r2 := some (0, w 17 2)) (w2 := w) (by (try simp only [rX5_timeOf, if_pos h1]) <;> (try rfl)) rfl) (?_)
    refine go_imul (eD DX5_firstTouched 13 rfl) (go_iload_n (eD DX5_firstTouched 14 rfl) rfl rfl (?_))
    by_cases h2 : high < (((4 * i) - place) * (w 17 2))
    · refine go_icmp_gtT (tgt := 50) (eD DX5_firstTouched 15 rfl) rfl (show eI (((4 * i) - place) * (w 17 2)) from by omega) (by omega) h2 ?_
      refine go_iconst (eD DX5_firstTouched 31 rfl) (go_istore (eD DX5_firstTouched 32 rfl) (by decide) (go_iload (eD DX5_firstTouched 33 rfl) rfl (go_if_eqT (tgt := 70) (eD DX5_firstTouched 34 rfl) rfl (by decide) (show (0 : Int) = 0 from by decide) (?_))))
      exact go_iinc (eD DX5_firstTouched 41 rfl) rfl (by decide) (go_goto (tgt := 3) (eD DX5_firstTouched 42 rfl) rfl (Go.pick [2, 3, 4, 5, 6, 7, 0] rfl (k1 h1 h2)))
    · refine go_icmp_gtF (tgt := 50) (eD DX5_firstTouched 15 rfl) rfl (show eI (((4 * i) - place) * (w 17 2)) from by omega) (by omega) h2 ?_
      refine go_iload_n (eD DX5_firstTouched 16 rfl) rfl rfl (go_iconst (eD DX5_firstTouched 17 rfl) (go_iload (eD DX5_firstTouched 18 rfl) rfl (go_iconst (eD DX5_firstTouched 19 rfl) (go_iadd (eD DX5_firstTouched 20 rfl) (go_imul (eD DX5_firstTouched 21 rfl) (go_isub (eD DX5_firstTouched 22 rfl) (go_aload_n (eD DX5_firstTouched 23 rfl) rfl rfl (go_iload (eD DX5_firstTouched 24 rfl) rfl (?_)))))))))
      refine go_callV (ci := 5) [(0, 0)] (eD DX5_firstTouched 25 rfl) ⟨eMem 3 159 rfl rfl, sX5_timeOf⟩ ⟨Nat.le_of_ble_eq_true rfl, Nat.le_of_ble_eq_true rfl⟩ (by decide) ⟨rfl, by decide, _, rfl, rfl⟩ rfl rfl (Nat.le_of_ble_eq_true rfl) (Cal.as (zX5_timeOf w 0 (by decide) ) (r2 := some (0, w 17 0)) (w2 := w) (by (try simp only [rX5_timeOf, if_pos h1, if_neg h2]) <;> (try rfl)) rfl) (?_)
      refine go_imul (eD DX5_firstTouched 26 rfl) (go_iload_n (eD DX5_firstTouched 27 rfl) rfl rfl (?_))
      by_cases h3 : high < ((place - (4 * (i + 1))) * (w 17 0))
      · refine go_icmp_gtT (tgt := 50) (eD DX5_firstTouched 28 rfl) rfl (show eI ((place - (4 * (i + 1))) * (w 17 0)) from by omega) (by omega) h3 ?_
        refine go_iconst (eD DX5_firstTouched 31 rfl) (go_istore (eD DX5_firstTouched 32 rfl) (by decide) (go_iload (eD DX5_firstTouched 33 rfl) rfl (go_if_eqT (tgt := 70) (eD DX5_firstTouched 34 rfl) rfl (by decide) (show (0 : Int) = 0 from by decide) (?_))))
        exact go_iinc (eD DX5_firstTouched 41 rfl) rfl (by decide) (go_goto (tgt := 3) (eD DX5_firstTouched 42 rfl) rfl (Go.pick [2, 3, 4, 5, 6, 7, 0] rfl (k2 h1 h2 h3)))
      · refine go_icmp_gtF (tgt := 50) (eD DX5_firstTouched 28 rfl) rfl (show eI ((place - (4 * (i + 1))) * (w 17 0)) from by omega) (by omega) h3 ?_
        refine go_iconst (eD DX5_firstTouched 29 rfl) (go_goto (tgt := 51) (eD DX5_firstTouched 30 rfl) rfl (go_istore (eD DX5_firstTouched 32 rfl) (by decide) (go_iload (eD DX5_firstTouched 33 rfl) rfl (go_if_eqF (tgt := 70) (eD DX5_firstTouched 34 rfl) rfl (by decide) (show ¬ ((1 : Int) = 0) from by decide) (?_)))))
        refine go_iload_n (eD DX5_firstTouched 35 rfl) rfl rfl (go_iload (eD DX5_firstTouched 36 rfl) rfl (go_callS [(0, lane), (0, i)] (eD DX5_firstTouched 37 rfl) ⟨eMem 3 166 rfl rfl, sX5_hasBit⟩ ⟨Nat.le_of_ble_eq_true rfl, Nat.le_of_ble_eq_true rfl⟩ rfl rfl (Nat.le_of_ble_eq_true rfl) (y_b_X5_hasBit w lane i (by omega) (by omega)) (?_)))
        by_cases h4 : hb14 lane i
        · refine go_if_eqF (tgt := 70) (eD DX5_firstTouched 38 rfl) rfl (eI_pI _) (pI1 h4) ?_
          rw [(k3 h1 h2 h3 h4).1, (k3 h1 h2 h3 h4).2]
          exact go_iload (eD DX5_firstTouched 39 rfl) rfl (go_iret (eD DX5_firstTouched 40 rfl) rfl)
        · refine go_if_eqT (tgt := 70) (eD DX5_firstTouched 38 rfl) rfl (eI_pI _) (pI0 h4) ?_
          exact go_iinc (eD DX5_firstTouched 41 rfl) rfl (by decide) (go_goto (tgt := 3) (eD DX5_firstTouched 42 rfl) rfl (Go.pick [2, 3, 4, 5, 6, 7, 0] rfl (k4 h1 h2 h3 h4)))
  · refine go_icmp_geT (tgt := 76) (eD DX5_firstTouched 4 rfl) rfl (by omega) (by decide) (Int.not_lt.mp h1) ?_
    rw [(k5 h1).1, (k5 h1).2]
    exact go_iconst (eD DX5_firstTouched 43 rfl) (go_iret (eD DX5_firstTouched 44 rfl) rfl)
def colAt (w : eW) (x : Int) : Int := if x < 0 then 0 else if x < 14 then w 18 x else 0
theorem y_X5_colAt (w : eW) (x : Int) (hx : eI x) : Cal mX5_columnAt [eR 16, (0, x)] w (some (0, colAt w x)) w := zX5_columnAt w x hx
set_option maxHeartbeats 4000000 in
set_option maxRecDepth 20000 in
theorem tX5_wallTouched0_0 {r : Option eV} {w9 : eW} (w : eW) (px py high : Int) {ln f : Int} (hB : HB w) (hn : -9 ≤ ln ∧ ln ≤ 60000) (hl : Cal mX5_laneAt [eR 16, (0, 0), (0, px), (0, py), (0, high)] w (some (0, ln)) w) (hf : ¬ ln = -9 → Cal mX5_firstTouched [eR 16, (0, eAnd (rowAt w (ln + 1)) (eXor (rowAt w ln) (-1))), (0, px), (0, high), (0, 1), (0, 3)] w (some (0, f)) w) (hfb : -1 ≤ f ∧ f < 14) (hxy : ¬ ln = -9 → 0 ≤ f → (0 ≤ f ∧ f < 14) ∧ 0 ≤ (ln + 1) ∧ (ln + 1) < 10) (k1 : ln = (-9) → r = some (0, (-2)) ∧ w9 = w) (k2 : ¬ (ln = (-9)) → f < 0 → r = some (0, (-2)) ∧ w9 = w) (k3 : ¬ (ln = (-9)) → ¬ (f < 0) → r = some (0, w 15 (((0 * 140) + ((ln + 1) * 14)) + f)) ∧ w9 = w) : Go mX5_wallTouched 0 [(0, eR 16), (1, (0, 0)), (2, (0, px)), (3, (0, py)), (4, (0, high))] [] w r w9 := by
  refine go_aload_n (eD DX5_wallTouched 0 rfl) rfl rfl (go_iload_n (eD DX5_wallTouched 1 rfl) rfl rfl (go_iload_n (eD DX5_wallTouched 2 rfl) rfl rfl (go_iload_n (eD DX5_wallTouched 3 rfl) rfl rfl (go_iload (eD DX5_wallTouched 4 rfl) rfl (go_callV (ci := 5) [(0, 0), (0, px), (0, py), (0, high)] (eD DX5_wallTouched 5 rfl) ⟨eMem 3 206 rfl rfl, sX5_laneAt⟩ ⟨Nat.le_of_ble_eq_true rfl, Nat.le_of_ble_eq_true rfl⟩ (by decide) ⟨rfl, by decide, _, rfl, rfl⟩ rfl rfl (Nat.le_of_ble_eq_true rfl) hl (go_istore (eD DX5_wallTouched 6 rfl) (by decide) (go_iload (eD DX5_wallTouched 7 rfl) rfl (go_bipush (eD DX5_wallTouched 8 rfl) (by decide) (?_)))))))))
  by_cases h1 : ln = (-9)
  · refine go_icmp_neF (tgt := 21) (eD DX5_wallTouched 9 rfl) rfl (by omega) (by decide) (not_not_intro h1) ?_
    rw [(k1 h1).1, (k1 h1).2]
    exact go_bipush (eD DX5_wallTouched 10 rfl) (by decide) (go_iret (eD DX5_wallTouched 11 rfl) rfl)
  · refine go_icmp_neT (tgt := 21) (eD DX5_wallTouched 9 rfl) rfl (by omega) (by decide) h1 ?_
    refine go_iload_n (eD DX5_wallTouched 12 rfl) rfl rfl (go_if_eqT (tgt := 30) (eD DX5_wallTouched 13 rfl) rfl (by decide) (show (0 : Int) = 0 from by decide) (?_))
    refine go_iload (eD DX5_wallTouched 17 rfl) rfl (go_iconst (eD DX5_wallTouched 18 rfl) (go_iadd (eD DX5_wallTouched 19 rfl) (go_goto (tgt := 41) (eD DX5_wallTouched 20 rfl) rfl (go_istore (eD DX5_wallTouched 24 rfl) (by decide) (go_iload_n (eD DX5_wallTouched 25 rfl) rfl rfl (go_if_eqT (tgt := 52) (eD DX5_wallTouched 26 rfl) rfl (by decide) (show (0 : Int) = 0 from by decide) (?_)))))))
    refine go_aload_n (eD DX5_wallTouched 30 rfl) rfl rfl (go_aload_n (eD DX5_wallTouched 31 rfl) rfl rfl (go_getR (t := 2) (eD DX5_wallTouched 32 rfl) fX5_45 (by decide) rfl ⟨rfl, rfl⟩ (go_iload (eD DX5_wallTouched 33 rfl) rfl (go_callV (ci := 0) [(0, ln + 1)] (eD DX5_wallTouched 34 rfl) ⟨eMem 3 154 rfl rfl, sX0_lineAt⟩ ⟨Nat.le_of_ble_eq_true rfl, Nat.le_of_ble_eq_true rfl⟩ (by decide) ⟨rfl, by decide, _, rfl, rfl⟩ rfl rfl (Nat.le_of_ble_eq_true rfl) (y_X0_lineAt w (ln + 1) (by omega) hB) (go_aload_n (eD DX5_wallTouched 35 rfl) rfl rfl (go_getR (t := 2) (eD DX5_wallTouched 36 rfl) fX5_45 (by decide) rfl ⟨rfl, rfl⟩ (go_iload (eD DX5_wallTouched 37 rfl) rfl (go_callV (ci := 0) [(0, ln)] (eD DX5_wallTouched 38 rfl) ⟨eMem 3 154 rfl rfl, sX0_lineAt⟩ ⟨Nat.le_of_ble_eq_true rfl, Nat.le_of_ble_eq_true rfl⟩ (by decide) ⟨rfl, by decide, _, rfl, rfl⟩ rfl rfl (Nat.le_of_ble_eq_true rfl) (y_X0_lineAt w ln (by omega) hB) (go_iconst (eD DX5_wallTouched 39 rfl) (go_ixor (eD DX5_wallTouched 40 rfl) (go_iand (eD DX5_wallTouched 41 rfl) (go_iload_n (eD DX5_wallTouched 42 rfl) rfl rfl (go_iload (eD DX5_wallTouched 43 rfl) rfl (go_iconst (eD DX5_wallTouched 44 rfl) (go_iconst (eD DX5_wallTouched 45 rfl) (go_callV (ci := 5) [(0, eAnd (rowAt w (ln + 1)) (eXor (rowAt w ln) (-1))), (0, px), (0, high), (0, 1), (0, 3)] (eD DX5_wallTouched 46 rfl) ⟨eMem 3 226 rfl rfl, sX5_firstTouched⟩ ⟨Nat.le_of_ble_eq_true rfl, Nat.le_of_ble_eq_true rfl⟩ (by decide) ⟨rfl, by decide, _, rfl, rfl⟩ rfl rfl (Nat.le_of_ble_eq_true rfl) (hf (by assumption)) (go_istore (eD DX5_wallTouched 47 rfl) (by decide) (go_iload (eD DX5_wallTouched 48 rfl) rfl (?_)))))))))))))))))))
    by_cases h2 : f < 0
    · refine go_if_geF (tgt := 94) (eD DX5_wallTouched 49 rfl) rfl (by omega) (Int.not_le.mpr h2) ?_
      rw [(k2 h1 h2).1, (k2 h1 h2).2]
      exact go_bipush (eD DX5_wallTouched 50 rfl) (by decide) (go_goto (tgt := 106) (eD DX5_wallTouched 51 rfl) rfl (go_iret (eD DX5_wallTouched 58 rfl) rfl))
    · refine go_if_geT (tgt := 94) (eD DX5_wallTouched 49 rfl) rfl (by omega) (Int.not_lt.mp h2) ?_
      rw [(k3 h1 h2).1, (k3 h1 h2).2]
      exact go_aload_n (eD DX5_wallTouched 52 rfl) rfl rfl (go_getR (t := 13) (eD DX5_wallTouched 53 rfl) fX5_49 (by decide) rfl ⟨rfl, rfl⟩ (go_iload (eD DX5_wallTouched 54 rfl) rfl (go_iload (eD DX5_wallTouched 55 rfl) rfl (go_iload_n (eD DX5_wallTouched 56 rfl) rfl rfl (go_callV (ci := 6) [(0, f), (0, ln + 1), (0, 0)] (eD DX5_wallTouched 57 rfl) ⟨eMem 3 230 rfl rfl, sX6_wallAt⟩ ⟨Nat.le_of_ble_eq_true rfl, Nat.le_of_ble_eq_true rfl⟩ (by decide) ⟨rfl, by decide, _, rfl, rfl⟩ rfl rfl (Nat.le_of_ble_eq_true rfl) (zX6_wallAt w f (ln + 1) 0 (by omega) (by omega) (by decide) (by have := hxy (by assumption) (by omega); omega)) (go_iret (eD DX5_wallTouched 58 rfl) rfl))))))
set_option maxHeartbeats 4000000 in
set_option maxRecDepth 20000 in
theorem tX5_wallTouched1_0 {r : Option eV} {w9 : eW} (w : eW) (px py high : Int) {ln f : Int} (hB : HB w) (hn : -9 ≤ ln ∧ ln ≤ 60000) (hl : Cal mX5_laneAt [eR 16, (0, 1), (0, px), (0, py), (0, high)] w (some (0, ln)) w) (hf : ¬ ln = -9 → Cal mX5_firstTouched [eR 16, (0, eAnd (colAt w (ln - 1)) (eXor (colAt w ln) (-1))), (0, py), (0, high), (0, 2), (0, 0)] w (some (0, f)) w) (hfb : -1 ≤ f ∧ f < 14) (hxy : ¬ ln = -9 → 0 ≤ f → (0 ≤ (ln - 1) ∧ (ln - 1) < 14) ∧ 0 ≤ f ∧ f < 10) (k1 : ln = (-9) → r = some (0, (-2)) ∧ w9 = w) (k2 : ¬ (ln = (-9)) → f < 0 → r = some (0, (-2)) ∧ w9 = w) (k3 : ¬ (ln = (-9)) → ¬ (f < 0) → r = some (0, w 15 (((1 * 140) + (f * 14)) + (ln - 1))) ∧ w9 = w) : Go mX5_wallTouched 0 [(0, eR 16), (1, (0, 1)), (2, (0, px)), (3, (0, py)), (4, (0, high))] [] w r w9 := by
  refine go_aload_n (eD DX5_wallTouched 0 rfl) rfl rfl (go_iload_n (eD DX5_wallTouched 1 rfl) rfl rfl (go_iload_n (eD DX5_wallTouched 2 rfl) rfl rfl (go_iload_n (eD DX5_wallTouched 3 rfl) rfl rfl (go_iload (eD DX5_wallTouched 4 rfl) rfl (go_callV (ci := 5) [(0, 1), (0, px), (0, py), (0, high)] (eD DX5_wallTouched 5 rfl) ⟨eMem 3 206 rfl rfl, sX5_laneAt⟩ ⟨Nat.le_of_ble_eq_true rfl, Nat.le_of_ble_eq_true rfl⟩ (by decide) ⟨rfl, by decide, _, rfl, rfl⟩ rfl rfl (Nat.le_of_ble_eq_true rfl) hl (go_istore (eD DX5_wallTouched 6 rfl) (by decide) (go_iload (eD DX5_wallTouched 7 rfl) rfl (go_bipush (eD DX5_wallTouched 8 rfl) (by decide) (?_)))))))))
  by_cases h1 : ln = (-9)
  · refine go_icmp_neF (tgt := 21) (eD DX5_wallTouched 9 rfl) rfl (by omega) (by decide) (not_not_intro h1) ?_
    rw [(k1 h1).1, (k1 h1).2]
    exact go_bipush (eD DX5_wallTouched 10 rfl) (by decide) (go_iret (eD DX5_wallTouched 11 rfl) rfl)
  · refine go_icmp_neT (tgt := 21) (eD DX5_wallTouched 9 rfl) rfl (by omega) (by decide) h1 ?_
    refine go_iload_n (eD DX5_wallTouched 12 rfl) rfl rfl (go_if_eqF (tgt := 30) (eD DX5_wallTouched 13 rfl) rfl (by decide) (show ¬ ((1 : Int) = 0) from by decide) (?_))
    refine go_iload_n (eD DX5_wallTouched 14 rfl) rfl rfl (go_iconst (eD DX5_wallTouched 15 rfl) (go_icmp_neT (tgt := 37) (eD DX5_wallTouched 16 rfl) rfl (by decide) (by decide) (show ¬ ((1 : Int) = 3) from by decide) (?_)))
    refine go_iload (eD DX5_wallTouched 21 rfl) rfl (go_iconst (eD DX5_wallTouched 22 rfl) (go_isub (eD DX5_wallTouched 23 rfl) (go_istore (eD DX5_wallTouched 24 rfl) (by decide) (go_iload_n (eD DX5_wallTouched 25 rfl) rfl rfl (go_if_eqF (tgt := 52) (eD DX5_wallTouched 26 rfl) rfl (by decide) (show ¬ ((1 : Int) = 0) from by decide) (?_))))))
    refine go_iload_n (eD DX5_wallTouched 27 rfl) rfl rfl (go_iconst (eD DX5_wallTouched 28 rfl) (go_icmp_neT (tgt := 107) (eD DX5_wallTouched 29 rfl) rfl (by decide) (by decide) (show ¬ ((1 : Int) = 2) from by decide) (?_)))
    refine go_aload_n (eD DX5_wallTouched 59 rfl) rfl rfl (go_aload_n (eD DX5_wallTouched 60 rfl) rfl rfl (go_iload (eD DX5_wallTouched 61 rfl) rfl (go_callV (ci := 5) [(0, ln - 1)] (eD DX5_wallTouched 62 rfl) ⟨eMem 3 176 rfl rfl, sX5_columnAt⟩ ⟨Nat.le_of_ble_eq_true rfl, Nat.le_of_ble_eq_true rfl⟩ (by decide) ⟨rfl, by decide, _, rfl, rfl⟩ rfl rfl (Nat.le_of_ble_eq_true rfl) (y_X5_colAt w (ln - 1) (by omega)) (go_aload_n (eD DX5_wallTouched 63 rfl) rfl rfl (go_iload (eD DX5_wallTouched 64 rfl) rfl (go_callV (ci := 5) [(0, ln)] (eD DX5_wallTouched 65 rfl) ⟨eMem 3 176 rfl rfl, sX5_columnAt⟩ ⟨Nat.le_of_ble_eq_true rfl, Nat.le_of_ble_eq_true rfl⟩ (by decide) ⟨rfl, by decide, _, rfl, rfl⟩ rfl rfl (Nat.le_of_ble_eq_true rfl) (y_X5_colAt w ln (by omega)) (go_iconst (eD DX5_wallTouched 66 rfl) (go_ixor (eD DX5_wallTouched 67 rfl) (go_iand (eD DX5_wallTouched 68 rfl) (go_iload_n (eD DX5_wallTouched 69 rfl) rfl rfl (go_iload (eD DX5_wallTouched 70 rfl) rfl (go_iconst (eD DX5_wallTouched 71 rfl) (go_iconst (eD DX5_wallTouched 72 rfl) (go_callV (ci := 5) [(0, eAnd (colAt w (ln - 1)) (eXor (colAt w ln) (-1))), (0, py), (0, high), (0, 2), (0, 0)] (eD DX5_wallTouched 73 rfl) ⟨eMem 3 226 rfl rfl, sX5_firstTouched⟩ ⟨Nat.le_of_ble_eq_true rfl, Nat.le_of_ble_eq_true rfl⟩ (by decide) ⟨rfl, by decide, _, rfl, rfl⟩ rfl rfl (Nat.le_of_ble_eq_true rfl) (hf (by assumption)) (go_istore (eD DX5_wallTouched 74 rfl) (by decide) (go_iload (eD DX5_wallTouched 75 rfl) rfl (?_)))))))))))))))))
    by_cases h2 : f < 0
    · refine go_if_geF (tgt := 143) (eD DX5_wallTouched 76 rfl) rfl (by omega) (Int.not_le.mpr h2) ?_
      rw [(k2 h1 h2).1, (k2 h1 h2).2]
      exact go_bipush (eD DX5_wallTouched 77 rfl) (by decide) (go_goto (tgt := 155) (eD DX5_wallTouched 78 rfl) rfl (go_iret (eD DX5_wallTouched 85 rfl) rfl))
    · refine go_if_geT (tgt := 143) (eD DX5_wallTouched 76 rfl) rfl (by omega) (Int.not_lt.mp h2) ?_
      rw [(k3 h1 h2).1, (k3 h1 h2).2]
      exact go_aload_n (eD DX5_wallTouched 79 rfl) rfl rfl (go_getR (t := 13) (eD DX5_wallTouched 80 rfl) fX5_49 (by decide) rfl ⟨rfl, rfl⟩ (go_iload (eD DX5_wallTouched 81 rfl) rfl (go_iload (eD DX5_wallTouched 82 rfl) rfl (go_iload_n (eD DX5_wallTouched 83 rfl) rfl rfl (go_callV (ci := 6) [(0, ln - 1), (0, f), (0, 1)] (eD DX5_wallTouched 84 rfl) ⟨eMem 3 230 rfl rfl, sX6_wallAt⟩ ⟨Nat.le_of_ble_eq_true rfl, Nat.le_of_ble_eq_true rfl⟩ (by decide) ⟨rfl, by decide, _, rfl, rfl⟩ rfl rfl (Nat.le_of_ble_eq_true rfl) (zX6_wallAt w (ln - 1) f 1 (by omega) (by omega) (by decide) (by have := hxy (by assumption) (by omega); omega)) (go_iret (eD DX5_wallTouched 85 rfl) rfl))))))
set_option maxHeartbeats 4000000 in
set_option maxRecDepth 20000 in
theorem tX5_wallTouched2_0 {r : Option eV} {w9 : eW} (w : eW) (px py high : Int) {ln f : Int} (hB : HB w) (hn : -9 ≤ ln ∧ ln ≤ 60000) (hl : Cal mX5_laneAt [eR 16, (0, 2), (0, px), (0, py), (0, high)] w (some (0, ln)) w) (hf : ¬ ln = -9 → Cal mX5_firstTouched [eR 16, (0, eAnd (rowAt w (ln - 1)) (eXor (rowAt w ln) (-1))), (0, px), (0, high), (0, 1), (0, 3)] w (some (0, f)) w) (hfb : -1 ≤ f ∧ f < 14) (hxy : ¬ ln = -9 → 0 ≤ f → (0 ≤ f ∧ f < 14) ∧ 0 ≤ (ln - 1) ∧ (ln - 1) < 10) (k1 : ln = (-9) → r = some (0, (-2)) ∧ w9 = w) (k2 : ¬ (ln = (-9)) → f < 0 → r = some (0, (-2)) ∧ w9 = w) (k3 : ¬ (ln = (-9)) → ¬ (f < 0) → r = some (0, w 15 (((2 * 140) + ((ln - 1) * 14)) + f)) ∧ w9 = w) : Go mX5_wallTouched 0 [(0, eR 16), (1, (0, 2)), (2, (0, px)), (3, (0, py)), (4, (0, high))] [] w r w9 := by
  refine go_aload_n (eD DX5_wallTouched 0 rfl) rfl rfl (go_iload_n (eD DX5_wallTouched 1 rfl) rfl rfl (go_iload_n (eD DX5_wallTouched 2 rfl) rfl rfl (go_iload_n (eD DX5_wallTouched 3 rfl) rfl rfl (go_iload (eD DX5_wallTouched 4 rfl) rfl (go_callV (ci := 5) [(0, 2), (0, px), (0, py), (0, high)] (eD DX5_wallTouched 5 rfl) ⟨eMem 3 206 rfl rfl, sX5_laneAt⟩ ⟨Nat.le_of_ble_eq_true rfl, Nat.le_of_ble_eq_true rfl⟩ (by decide) ⟨rfl, by decide, _, rfl, rfl⟩ rfl rfl (Nat.le_of_ble_eq_true rfl) hl (go_istore (eD DX5_wallTouched 6 rfl) (by decide) (go_iload (eD DX5_wallTouched 7 rfl) rfl (go_bipush (eD DX5_wallTouched 8 rfl) (by decide) (?_)))))))))
  by_cases h1 : ln = (-9)
  · refine go_icmp_neF (tgt := 21) (eD DX5_wallTouched 9 rfl) rfl (by omega) (by decide) (not_not_intro h1) ?_
    rw [(k1 h1).1, (k1 h1).2]
    exact go_bipush (eD DX5_wallTouched 10 rfl) (by decide) (go_iret (eD DX5_wallTouched 11 rfl) rfl)
  · refine go_icmp_neT (tgt := 21) (eD DX5_wallTouched 9 rfl) rfl (by omega) (by decide) h1 ?_
    refine go_iload_n (eD DX5_wallTouched 12 rfl) rfl rfl (go_if_eqF (tgt := 30) (eD DX5_wallTouched 13 rfl) rfl (by decide) (show ¬ ((2 : Int) = 0) from by decide) (?_))
    refine go_iload_n (eD DX5_wallTouched 14 rfl) rfl rfl (go_iconst (eD DX5_wallTouched 15 rfl) (go_icmp_neT (tgt := 37) (eD DX5_wallTouched 16 rfl) rfl (by decide) (by decide) (show ¬ ((2 : Int) = 3) from by decide) (?_)))
    refine go_iload (eD DX5_wallTouched 21 rfl) rfl (go_iconst (eD DX5_wallTouched 22 rfl) (go_isub (eD DX5_wallTouched 23 rfl) (go_istore (eD DX5_wallTouched 24 rfl) (by decide) (go_iload_n (eD DX5_wallTouched 25 rfl) rfl rfl (go_if_eqF (tgt := 52) (eD DX5_wallTouched 26 rfl) rfl (by decide) (show ¬ ((2 : Int) = 0) from by decide) (?_))))))
    refine go_iload_n (eD DX5_wallTouched 27 rfl) rfl rfl (go_iconst (eD DX5_wallTouched 28 rfl) (go_icmp_neF (tgt := 107) (eD DX5_wallTouched 29 rfl) rfl (by decide) (by decide) (not_not_intro (show (2 : Int) = 2 from by decide)) (?_)))
    refine go_aload_n (eD DX5_wallTouched 30 rfl) rfl rfl (go_aload_n (eD DX5_wallTouched 31 rfl) rfl rfl (go_getR (t := 2) (eD DX5_wallTouched 32 rfl) fX5_45 (by decide) rfl ⟨rfl, rfl⟩ (go_iload (eD DX5_wallTouched 33 rfl) rfl (go_callV (ci := 0) [(0, ln - 1)] (eD DX5_wallTouched 34 rfl) ⟨eMem 3 154 rfl rfl, sX0_lineAt⟩ ⟨Nat.le_of_ble_eq_true rfl, Nat.le_of_ble_eq_true rfl⟩ (by decide) ⟨rfl, by decide, _, rfl, rfl⟩ rfl rfl (Nat.le_of_ble_eq_true rfl) (y_X0_lineAt w (ln - 1) (by omega) hB) (go_aload_n (eD DX5_wallTouched 35 rfl) rfl rfl (go_getR (t := 2) (eD DX5_wallTouched 36 rfl) fX5_45 (by decide) rfl ⟨rfl, rfl⟩ (go_iload (eD DX5_wallTouched 37 rfl) rfl (go_callV (ci := 0) [(0, ln)] (eD DX5_wallTouched 38 rfl) ⟨eMem 3 154 rfl rfl, sX0_lineAt⟩ ⟨Nat.le_of_ble_eq_true rfl, Nat.le_of_ble_eq_true rfl⟩ (by decide) ⟨rfl, by decide, _, rfl, rfl⟩ rfl rfl (Nat.le_of_ble_eq_true rfl) (y_X0_lineAt w ln (by omega) hB) (go_iconst (eD DX5_wallTouched 39 rfl) (go_ixor (eD DX5_wallTouched 40 rfl) (go_iand (eD DX5_wallTouched 41 rfl) (go_iload_n (eD DX5_wallTouched 42 rfl) rfl rfl (go_iload (eD DX5_wallTouched 43 rfl) rfl (go_iconst (eD DX5_wallTouched 44 rfl) (go_iconst (eD DX5_wallTouched 45 rfl) (go_callV (ci := 5) [(0, eAnd (rowAt w (ln - 1)) (eXor (rowAt w ln) (-1))), (0, px), (0, high), (0, 1), (0, 3)] (eD DX5_wallTouched 46 rfl) ⟨eMem 3 226 rfl rfl, sX5_firstTouched⟩ ⟨Nat.le_of_ble_eq_true rfl, Nat.le_of_ble_eq_true rfl⟩ (by decide) ⟨rfl, by decide, _, rfl, rfl⟩ rfl rfl (Nat.le_of_ble_eq_true rfl) (hf (by assumption)) (go_istore (eD DX5_wallTouched 47 rfl) (by decide) (go_iload (eD DX5_wallTouched 48 rfl) rfl (?_)))))))))))))))))))
    by_cases h2 : f < 0
    · refine go_if_geF (tgt := 94) (eD DX5_wallTouched 49 rfl) rfl (by omega) (Int.not_le.mpr h2) ?_
      rw [(k2 h1 h2).1, (k2 h1 h2).2]
      exact go_bipush (eD DX5_wallTouched 50 rfl) (by decide) (go_goto (tgt := 106) (eD DX5_wallTouched 51 rfl) rfl (go_iret (eD DX5_wallTouched 58 rfl) rfl))
    · refine go_if_geT (tgt := 94) (eD DX5_wallTouched 49 rfl) rfl (by omega) (Int.not_lt.mp h2) ?_
      rw [(k3 h1 h2).1, (k3 h1 h2).2]
      exact go_aload_n (eD DX5_wallTouched 52 rfl) rfl rfl (go_getR (t := 13) (eD DX5_wallTouched 53 rfl) fX5_49 (by decide) rfl ⟨rfl, rfl⟩ (go_iload (eD DX5_wallTouched 54 rfl) rfl (go_iload (eD DX5_wallTouched 55 rfl) rfl (go_iload_n (eD DX5_wallTouched 56 rfl) rfl rfl (go_callV (ci := 6) [(0, f), (0, ln - 1), (0, 2)] (eD DX5_wallTouched 57 rfl) ⟨eMem 3 230 rfl rfl, sX6_wallAt⟩ ⟨Nat.le_of_ble_eq_true rfl, Nat.le_of_ble_eq_true rfl⟩ (by decide) ⟨rfl, by decide, _, rfl, rfl⟩ rfl rfl (Nat.le_of_ble_eq_true rfl) (zX6_wallAt w f (ln - 1) 2 (by omega) (by omega) (by decide) (by have := hxy (by assumption) (by omega); omega)) (go_iret (eD DX5_wallTouched 58 rfl) rfl))))))
set_option maxHeartbeats 4000000 in
set_option maxRecDepth 20000 in
theorem tX5_wallTouched3_0 {r : Option eV} {w9 : eW} (w : eW) (px py high : Int) {ln f : Int} (hB : HB w) (hn : -9 ≤ ln ∧ ln ≤ 60000) (hl : Cal mX5_laneAt [eR 16, (0, 3), (0, px), (0, py), (0, high)] w (some (0, ln)) w) (hf : ¬ ln = -9 → Cal mX5_firstTouched [eR 16, (0, eAnd (colAt w (ln + 1)) (eXor (colAt w ln) (-1))), (0, py), (0, high), (0, 2), (0, 0)] w (some (0, f)) w) (hfb : -1 ≤ f ∧ f < 14) (hxy : ¬ ln = -9 → 0 ≤ f → (0 ≤ (ln + 1) ∧ (ln + 1) < 14) ∧ 0 ≤ f ∧ f < 10) (k1 : ln = (-9) → r = some (0, (-2)) ∧ w9 = w) (k2 : ¬ (ln = (-9)) → f < 0 → r = some (0, (-2)) ∧ w9 = w) (k3 : ¬ (ln = (-9)) → ¬ (f < 0) → r = some (0, w 15 (((3 * 140) + (f * 14)) + (ln + 1))) ∧ w9 = w) : Go mX5_wallTouched 0 [(0, eR 16), (1, (0, 3)), (2, (0, px)), (3, (0, py)), (4, (0, high))] [] w r w9 := by
  refine go_aload_n (eD DX5_wallTouched 0 rfl) rfl rfl (go_iload_n (eD DX5_wallTouched 1 rfl) rfl rfl (go_iload_n (eD DX5_wallTouched 2 rfl) rfl rfl (go_iload_n (eD DX5_wallTouched 3 rfl) rfl rfl (go_iload (eD DX5_wallTouched 4 rfl) rfl (go_callV (ci := 5) [(0, 3), (0, px), (0, py), (0, high)] (eD DX5_wallTouched 5 rfl) ⟨eMem 3 206 rfl rfl, sX5_laneAt⟩ ⟨Nat.le_of_ble_eq_true rfl, Nat.le_of_ble_eq_true rfl⟩ (by decide) ⟨rfl, by decide, _, rfl, rfl⟩ rfl rfl (Nat.le_of_ble_eq_true rfl) hl (go_istore (eD DX5_wallTouched 6 rfl) (by decide) (go_iload (eD DX5_wallTouched 7 rfl) rfl (go_bipush (eD DX5_wallTouched 8 rfl) (by decide) (?_)))))))))
  by_cases h1 : ln = (-9)
  · refine go_icmp_neF (tgt := 21) (eD DX5_wallTouched 9 rfl) rfl (by omega) (by decide) (not_not_intro h1) ?_
    rw [(k1 h1).1, (k1 h1).2]
    exact go_bipush (eD DX5_wallTouched 10 rfl) (by decide) (go_iret (eD DX5_wallTouched 11 rfl) rfl)
  · refine go_icmp_neT (tgt := 21) (eD DX5_wallTouched 9 rfl) rfl (by omega) (by decide) h1 ?_
    refine go_iload_n (eD DX5_wallTouched 12 rfl) rfl rfl (go_if_eqF (tgt := 30) (eD DX5_wallTouched 13 rfl) rfl (by decide) (show ¬ ((3 : Int) = 0) from by decide) (?_))
    refine go_iload_n (eD DX5_wallTouched 14 rfl) rfl rfl (go_iconst (eD DX5_wallTouched 15 rfl) (go_icmp_neF (tgt := 37) (eD DX5_wallTouched 16 rfl) rfl (by decide) (by decide) (not_not_intro (show (3 : Int) = 3 from by decide)) (?_)))
    refine go_iload (eD DX5_wallTouched 17 rfl) rfl (go_iconst (eD DX5_wallTouched 18 rfl) (go_iadd (eD DX5_wallTouched 19 rfl) (go_goto (tgt := 41) (eD DX5_wallTouched 20 rfl) rfl (go_istore (eD DX5_wallTouched 24 rfl) (by decide) (go_iload_n (eD DX5_wallTouched 25 rfl) rfl rfl (go_if_eqF (tgt := 52) (eD DX5_wallTouched 26 rfl) rfl (by decide) (show ¬ ((3 : Int) = 0) from by decide) (?_)))))))
    refine go_iload_n (eD DX5_wallTouched 27 rfl) rfl rfl (go_iconst (eD DX5_wallTouched 28 rfl) (go_icmp_neT (tgt := 107) (eD DX5_wallTouched 29 rfl) rfl (by decide) (by decide) (show ¬ ((3 : Int) = 2) from by decide) (?_)))
    refine go_aload_n (eD DX5_wallTouched 59 rfl) rfl rfl (go_aload_n (eD DX5_wallTouched 60 rfl) rfl rfl (go_iload (eD DX5_wallTouched 61 rfl) rfl (go_callV (ci := 5) [(0, ln + 1)] (eD DX5_wallTouched 62 rfl) ⟨eMem 3 176 rfl rfl, sX5_columnAt⟩ ⟨Nat.le_of_ble_eq_true rfl, Nat.le_of_ble_eq_true rfl⟩ (by decide) ⟨rfl, by decide, _, rfl, rfl⟩ rfl rfl (Nat.le_of_ble_eq_true rfl) (y_X5_colAt w (ln + 1) (by omega)) (go_aload_n (eD DX5_wallTouched 63 rfl) rfl rfl (go_iload (eD DX5_wallTouched 64 rfl) rfl (go_callV (ci := 5) [(0, ln)] (eD DX5_wallTouched 65 rfl) ⟨eMem 3 176 rfl rfl, sX5_columnAt⟩ ⟨Nat.le_of_ble_eq_true rfl, Nat.le_of_ble_eq_true rfl⟩ (by decide) ⟨rfl, by decide, _, rfl, rfl⟩ rfl rfl (Nat.le_of_ble_eq_true rfl) (y_X5_colAt w ln (by omega)) (go_iconst (eD DX5_wallTouched 66 rfl) (go_ixor (eD DX5_wallTouched 67 rfl) (go_iand (eD DX5_wallTouched 68 rfl) (go_iload_n (eD DX5_wallTouched 69 rfl) rfl rfl (go_iload (eD DX5_wallTouched 70 rfl) rfl (go_iconst (eD DX5_wallTouched 71 rfl) (go_iconst (eD DX5_wallTouched 72 rfl) (go_callV (ci := 5) [(0, eAnd (colAt w (ln + 1)) (eXor (colAt w ln) (-1))), (0, py), (0, high), (0, 2), (0, 0)] (eD DX5_wallTouched 73 rfl) ⟨eMem 3 226 rfl rfl, sX5_firstTouched⟩ ⟨Nat.le_of_ble_eq_true rfl, Nat.le_of_ble_eq_true rfl⟩ (by decide) ⟨rfl, by decide, _, rfl, rfl⟩ rfl rfl (Nat.le_of_ble_eq_true rfl) (hf (by assumption)) (go_istore (eD DX5_wallTouched 74 rfl) (by decide) (go_iload (eD DX5_wallTouched 75 rfl) rfl (?_)))))))))))))))))
    by_cases h2 : f < 0
    · refine go_if_geF (tgt := 143) (eD DX5_wallTouched 76 rfl) rfl (by omega) (Int.not_le.mpr h2) ?_
      rw [(k2 h1 h2).1, (k2 h1 h2).2]
      exact go_bipush (eD DX5_wallTouched 77 rfl) (by decide) (go_goto (tgt := 155) (eD DX5_wallTouched 78 rfl) rfl (go_iret (eD DX5_wallTouched 85 rfl) rfl))
    · refine go_if_geT (tgt := 143) (eD DX5_wallTouched 76 rfl) rfl (by omega) (Int.not_lt.mp h2) ?_
      rw [(k3 h1 h2).1, (k3 h1 h2).2]
      exact go_aload_n (eD DX5_wallTouched 79 rfl) rfl rfl (go_getR (t := 13) (eD DX5_wallTouched 80 rfl) fX5_49 (by decide) rfl ⟨rfl, rfl⟩ (go_iload (eD DX5_wallTouched 81 rfl) rfl (go_iload (eD DX5_wallTouched 82 rfl) rfl (go_iload_n (eD DX5_wallTouched 83 rfl) rfl rfl (go_callV (ci := 6) [(0, ln + 1), (0, f), (0, 3)] (eD DX5_wallTouched 84 rfl) ⟨eMem 3 230 rfl rfl, sX6_wallAt⟩ ⟨Nat.le_of_ble_eq_true rfl, Nat.le_of_ble_eq_true rfl⟩ (by decide) ⟨rfl, by decide, _, rfl, rfl⟩ rfl rfl (Nat.le_of_ble_eq_true rfl) (zX6_wallAt w (ln + 1) f 3 (by omega) (by omega) (by decide) (by have := hxy (by assumption) (by omega); omega)) (go_iret (eD DX5_wallTouched 85 rfl) rfl))))))
set_option maxHeartbeats 4000000 in
set_option maxRecDepth 20000 in
theorem tX5_wallBelow_0 {r : Option eV} {w9 : eW} (w : eW) (px py high set : Int) (k1 : Go mX5_wallBelow 3 [(0, eR 16), (1, (0, px)), (2, (0, py)), (3, (0, high)), (4, (0, set)), (5, (0, 0))] [] w r w9) : Go mX5_wallBelow 0 [(0, eR 16), (1, (0, px)), (2, (0, py)), (3, (0, high)), (4, (0, set))] [] w r w9 := by
  exact go_iconst (eD DX5_wallBelow 0 rfl) (go_istore (eD DX5_wallBelow 1 rfl) (by decide) (Go.pick [1, 2, 3, 4, 5, 0] rfl (k1)))
set_option maxHeartbeats 4000000 in
set_option maxRecDepth 20000 in
theorem tX5_wallBelow0_3 {r : Option eV} {w9 : eW} (w : eW) (px py high set : Int)  (wt : Int) (hs : 0 ≤ set ∧ set < 16) (hw : eAnd (set / 2 ^ (0 : Int).toNat) 1 = 1 → Cal mX5_wallTouched [eR 16, (0, 0), (0, px), (0, py), (0, high)] w (some (0, wt)) w) (hwb : eI wt) (k1 : (eAnd (set / 2 ^ (0 : Int).toNat) 1) = 1 → wt = (-2) → Go mX5_wallBelow 3 [(0, eR 16), (1, (0, px)), (2, (0, py)), (3, (0, high)), (4, (0, set)), (5, (0, 0 + 1))] [] w r w9) (k2 : (eAnd (set / 2 ^ (0 : Int).toNat) 1) = 1 → ¬ (wt = (-2)) → r = some (0, wt) ∧ w9 = w) (k3 : ¬ ((eAnd (set / 2 ^ (0 : Int).toNat) 1) = 1) → Go mX5_wallBelow 3 [(0, eR 16), (1, (0, px)), (2, (0, py)), (3, (0, high)), (4, (0, set)), (5, (0, 0 + 1))] [] w r w9) : Go mX5_wallBelow 3 [(0, eR 16), (1, (0, px)), (2, (0, py)), (3, (0, high)), (4, (0, set)), (5, (0, 0))] [] w r w9 := by
  have e8 : eI (eAnd (set / 2 ^ (0 : Int).toNat) 1) := by rw [eAnd_1 (e_div2 (by omega))]; omega
  refine go_iload (eD DX5_wallBelow 2 rfl) rfl (go_iconst (eD DX5_wallBelow 3 rfl) (go_icmp_geF (tgt := 47) (eD DX5_wallBelow 4 rfl) rfl (by decide) (by decide) (Int.not_le.mpr (show (0 : Int) < 4 from by decide)) (?_)))
  refine go_iload (eD DX5_wallBelow 5 rfl) rfl (go_iload (eD DX5_wallBelow 6 rfl) rfl (go_ishr (eD DX5_wallBelow 7 rfl) (by omega) (show (0 : Int) ≤ 0 ∧ (0 : Int) < 32 from by decide) (go_iconst (eD DX5_wallBelow 8 rfl) (go_iand (eD DX5_wallBelow 9 rfl) (go_iconst (eD DX5_wallBelow 10 rfl) (?_))))))
  by_cases h1 : (eAnd (set / 2 ^ (0 : Int).toNat) 1) = 1
  · refine go_icmp_neF (tgt := 41) (eD DX5_wallBelow 11 rfl) rfl (by omega) (by decide) (not_not_intro h1) ?_
    refine go_aload_n (eD DX5_wallBelow 12 rfl) rfl rfl (go_iload (eD DX5_wallBelow 13 rfl) rfl (go_iload_n (eD DX5_wallBelow 14 rfl) rfl rfl (go_iload_n (eD DX5_wallBelow 15 rfl) rfl rfl (go_iload_n (eD DX5_wallBelow 16 rfl) rfl rfl (go_callV (ci := 5) [(0, 0), (0, px), (0, py), (0, high)] (eD DX5_wallBelow 17 rfl) ⟨eMem 3 222 rfl rfl, sX5_wallTouched⟩ ⟨Nat.le_of_ble_eq_true rfl, Nat.le_of_ble_eq_true rfl⟩ (by decide) ⟨rfl, by decide, _, rfl, rfl⟩ rfl rfl (Nat.le_of_ble_eq_true rfl) (hw (by assumption)) (go_istore (eD DX5_wallBelow 18 rfl) (by decide) (go_iload (eD DX5_wallBelow 19 rfl) rfl (go_bipush (eD DX5_wallBelow 20 rfl) (by decide) (?_)))))))))
    by_cases h2 : wt = (-2)
    · refine go_icmp_eqT (tgt := 41) (eD DX5_wallBelow 21 rfl) rfl (by omega) (by decide) h2 ?_
      exact go_iinc (eD DX5_wallBelow 24 rfl) rfl (by decide) (go_goto (tgt := 3) (eD DX5_wallBelow 25 rfl) rfl (Go.pick [2, 3, 4, 5, 6, 0] rfl (k1 h1 h2)))
    · refine go_icmp_eqF (tgt := 41) (eD DX5_wallBelow 21 rfl) rfl (by omega) (by decide) h2 ?_
      rw [(k2 h1 h2).1, (k2 h1 h2).2]
      exact go_iload (eD DX5_wallBelow 22 rfl) rfl (go_iret (eD DX5_wallBelow 23 rfl) rfl)
  · refine go_icmp_neT (tgt := 41) (eD DX5_wallBelow 11 rfl) rfl (by omega) (by decide) h1 ?_
    exact go_iinc (eD DX5_wallBelow 24 rfl) rfl (by decide) (go_goto (tgt := 3) (eD DX5_wallBelow 25 rfl) rfl (Go.pick [1, 2, 3, 4, 5, 0] rfl (k3 h1)))
set_option maxHeartbeats 4000000 in
set_option maxRecDepth 20000 in
theorem tX5_wallBelow1_3 {r : Option eV} {w9 : eW} (w : eW) (px py high set : Int)  (wt : Int) (hs : 0 ≤ set ∧ set < 16) (hw : eAnd (set / 2 ^ (1 : Int).toNat) 1 = 1 → Cal mX5_wallTouched [eR 16, (0, 1), (0, px), (0, py), (0, high)] w (some (0, wt)) w) (hwb : eI wt) (k1 : (eAnd (set / 2 ^ (1 : Int).toNat) 1) = 1 → wt = (-2) → Go mX5_wallBelow 3 [(0, eR 16), (1, (0, px)), (2, (0, py)), (3, (0, high)), (4, (0, set)), (5, (0, 1 + 1))] [] w r w9) (k2 : (eAnd (set / 2 ^ (1 : Int).toNat) 1) = 1 → ¬ (wt = (-2)) → r = some (0, wt) ∧ w9 = w) (k3 : ¬ ((eAnd (set / 2 ^ (1 : Int).toNat) 1) = 1) → Go mX5_wallBelow 3 [(0, eR 16), (1, (0, px)), (2, (0, py)), (3, (0, high)), (4, (0, set)), (5, (0, 1 + 1))] [] w r w9) : Go mX5_wallBelow 3 [(0, eR 16), (1, (0, px)), (2, (0, py)), (3, (0, high)), (4, (0, set)), (5, (0, 1))] [] w r w9 := by
  have e8 : eI (eAnd (set / 2 ^ (1 : Int).toNat) 1) := by rw [eAnd_1 (e_div2 (by omega))]; omega
  refine go_iload (eD DX5_wallBelow 2 rfl) rfl (go_iconst (eD DX5_wallBelow 3 rfl) (go_icmp_geF (tgt := 47) (eD DX5_wallBelow 4 rfl) rfl (by decide) (by decide) (Int.not_le.mpr (show (1 : Int) < 4 from by decide)) (?_)))
  refine go_iload (eD DX5_wallBelow 5 rfl) rfl (go_iload (eD DX5_wallBelow 6 rfl) rfl (go_ishr (eD DX5_wallBelow 7 rfl) (by omega) (show (0 : Int) ≤ 1 ∧ (1 : Int) < 32 from by decide) (go_iconst (eD DX5_wallBelow 8 rfl) (go_iand (eD DX5_wallBelow 9 rfl) (go_iconst (eD DX5_wallBelow 10 rfl) (?_))))))
  by_cases h1 : (eAnd (set / 2 ^ (1 : Int).toNat) 1) = 1
  · refine go_icmp_neF (tgt := 41) (eD DX5_wallBelow 11 rfl) rfl (by omega) (by decide) (not_not_intro h1) ?_
    refine go_aload_n (eD DX5_wallBelow 12 rfl) rfl rfl (go_iload (eD DX5_wallBelow 13 rfl) rfl (go_iload_n (eD DX5_wallBelow 14 rfl) rfl rfl (go_iload_n (eD DX5_wallBelow 15 rfl) rfl rfl (go_iload_n (eD DX5_wallBelow 16 rfl) rfl rfl (go_callV (ci := 5) [(0, 1), (0, px), (0, py), (0, high)] (eD DX5_wallBelow 17 rfl) ⟨eMem 3 222 rfl rfl, sX5_wallTouched⟩ ⟨Nat.le_of_ble_eq_true rfl, Nat.le_of_ble_eq_true rfl⟩ (by decide) ⟨rfl, by decide, _, rfl, rfl⟩ rfl rfl (Nat.le_of_ble_eq_true rfl) (hw (by assumption)) (go_istore (eD DX5_wallBelow 18 rfl) (by decide) (go_iload (eD DX5_wallBelow 19 rfl) rfl (go_bipush (eD DX5_wallBelow 20 rfl) (by decide) (?_)))))))))
    by_cases h2 : wt = (-2)
    · refine go_icmp_eqT (tgt := 41) (eD DX5_wallBelow 21 rfl) rfl (by omega) (by decide) h2 ?_
      exact go_iinc (eD DX5_wallBelow 24 rfl) rfl (by decide) (go_goto (tgt := 3) (eD DX5_wallBelow 25 rfl) rfl (Go.pick [2, 3, 4, 5, 6, 0] rfl (k1 h1 h2)))
    · refine go_icmp_eqF (tgt := 41) (eD DX5_wallBelow 21 rfl) rfl (by omega) (by decide) h2 ?_
      rw [(k2 h1 h2).1, (k2 h1 h2).2]
      exact go_iload (eD DX5_wallBelow 22 rfl) rfl (go_iret (eD DX5_wallBelow 23 rfl) rfl)
  · refine go_icmp_neT (tgt := 41) (eD DX5_wallBelow 11 rfl) rfl (by omega) (by decide) h1 ?_
    exact go_iinc (eD DX5_wallBelow 24 rfl) rfl (by decide) (go_goto (tgt := 3) (eD DX5_wallBelow 25 rfl) rfl (Go.pick [1, 2, 3, 4, 5, 0] rfl (k3 h1)))
set_option maxHeartbeats 4000000 in
set_option maxRecDepth 20000 in
theorem tX5_wallBelow2_3 {r : Option eV} {w9 : eW} (w : eW) (px py high set : Int)  (wt : Int) (hs : 0 ≤ set ∧ set < 16) (hw : eAnd (set / 2 ^ (2 : Int).toNat) 1 = 1 → Cal mX5_wallTouched [eR 16, (0, 2), (0, px), (0, py), (0, high)] w (some (0, wt)) w) (hwb : eI wt) (k1 : (eAnd (set / 2 ^ (2 : Int).toNat) 1) = 1 → wt = (-2) → Go mX5_wallBelow 3 [(0, eR 16), (1, (0, px)), (2, (0, py)), (3, (0, high)), (4, (0, set)), (5, (0, 2 + 1))] [] w r w9) (k2 : (eAnd (set / 2 ^ (2 : Int).toNat) 1) = 1 → ¬ (wt = (-2)) → r = some (0, wt) ∧ w9 = w) (k3 : ¬ ((eAnd (set / 2 ^ (2 : Int).toNat) 1) = 1) → Go mX5_wallBelow 3 [(0, eR 16), (1, (0, px)), (2, (0, py)), (3, (0, high)), (4, (0, set)), (5, (0, 2 + 1))] [] w r w9) : Go mX5_wallBelow 3 [(0, eR 16), (1, (0, px)), (2, (0, py)), (3, (0, high)), (4, (0, set)), (5, (0, 2))] [] w r w9 := by
  have e8 : eI (eAnd (set / 2 ^ (2 : Int).toNat) 1) := by rw [eAnd_1 (e_div2 (by omega))]; omega
  refine go_iload (eD DX5_wallBelow 2 rfl) rfl (go_iconst (eD DX5_wallBelow 3 rfl) (go_icmp_geF (tgt := 47) (eD DX5_wallBelow 4 rfl) rfl (by decide) (by decide) (Int.not_le.mpr (show (2 : Int) < 4 from by decide)) (?_)))
  refine go_iload (eD DX5_wallBelow 5 rfl) rfl (go_iload (eD DX5_wallBelow 6 rfl) rfl (go_ishr (eD DX5_wallBelow 7 rfl) (by omega) (show (0 : Int) ≤ 2 ∧ (2 : Int) < 32 from by decide) (go_iconst (eD DX5_wallBelow 8 rfl) (go_iand (eD DX5_wallBelow 9 rfl) (go_iconst (eD DX5_wallBelow 10 rfl) (?_))))))
  by_cases h1 : (eAnd (set / 2 ^ (2 : Int).toNat) 1) = 1
  · refine go_icmp_neF (tgt := 41) (eD DX5_wallBelow 11 rfl) rfl (by omega) (by decide) (not_not_intro h1) ?_
    refine go_aload_n (eD DX5_wallBelow 12 rfl) rfl rfl (go_iload (eD DX5_wallBelow 13 rfl) rfl (go_iload_n (eD DX5_wallBelow 14 rfl) rfl rfl (go_iload_n (eD DX5_wallBelow 15 rfl) rfl rfl (go_iload_n (eD DX5_wallBelow 16 rfl) rfl rfl (go_callV (ci := 5) [(0, 2), (0, px), (0, py), (0, high)] (eD DX5_wallBelow 17 rfl) ⟨eMem 3 222 rfl rfl, sX5_wallTouched⟩ ⟨Nat.le_of_ble_eq_true rfl, Nat.le_of_ble_eq_true rfl⟩ (by decide) ⟨rfl, by decide, _, rfl, rfl⟩ rfl rfl (Nat.le_of_ble_eq_true rfl) (hw (by assumption)) (go_istore (eD DX5_wallBelow 18 rfl) (by decide) (go_iload (eD DX5_wallBelow 19 rfl) rfl (go_bipush (eD DX5_wallBelow 20 rfl) (by decide) (?_)))))))))
    by_cases h2 : wt = (-2)
    · refine go_icmp_eqT (tgt := 41) (eD DX5_wallBelow 21 rfl) rfl (by omega) (by decide) h2 ?_
      exact go_iinc (eD DX5_wallBelow 24 rfl) rfl (by decide) (go_goto (tgt := 3) (eD DX5_wallBelow 25 rfl) rfl (Go.pick [2, 3, 4, 5, 6, 0] rfl (k1 h1 h2)))
    · refine go_icmp_eqF (tgt := 41) (eD DX5_wallBelow 21 rfl) rfl (by omega) (by decide) h2 ?_
      rw [(k2 h1 h2).1, (k2 h1 h2).2]
      exact go_iload (eD DX5_wallBelow 22 rfl) rfl (go_iret (eD DX5_wallBelow 23 rfl) rfl)
  · refine go_icmp_neT (tgt := 41) (eD DX5_wallBelow 11 rfl) rfl (by omega) (by decide) h1 ?_
    exact go_iinc (eD DX5_wallBelow 24 rfl) rfl (by decide) (go_goto (tgt := 3) (eD DX5_wallBelow 25 rfl) rfl (Go.pick [1, 2, 3, 4, 5, 0] rfl (k3 h1)))
set_option maxHeartbeats 4000000 in
set_option maxRecDepth 20000 in
theorem tX5_wallBelow3_3 {r : Option eV} {w9 : eW} (w : eW) (px py high set : Int)  (wt : Int) (hs : 0 ≤ set ∧ set < 16) (hw : eAnd (set / 2 ^ (3 : Int).toNat) 1 = 1 → Cal mX5_wallTouched [eR 16, (0, 3), (0, px), (0, py), (0, high)] w (some (0, wt)) w) (hwb : eI wt) (k1 : (eAnd (set / 2 ^ (3 : Int).toNat) 1) = 1 → wt = (-2) → Go mX5_wallBelow 3 [(0, eR 16), (1, (0, px)), (2, (0, py)), (3, (0, high)), (4, (0, set)), (5, (0, 3 + 1))] [] w r w9) (k2 : (eAnd (set / 2 ^ (3 : Int).toNat) 1) = 1 → ¬ (wt = (-2)) → r = some (0, wt) ∧ w9 = w) (k3 : ¬ ((eAnd (set / 2 ^ (3 : Int).toNat) 1) = 1) → Go mX5_wallBelow 3 [(0, eR 16), (1, (0, px)), (2, (0, py)), (3, (0, high)), (4, (0, set)), (5, (0, 3 + 1))] [] w r w9) : Go mX5_wallBelow 3 [(0, eR 16), (1, (0, px)), (2, (0, py)), (3, (0, high)), (4, (0, set)), (5, (0, 3))] [] w r w9 := by
  have e8 : eI (eAnd (set / 2 ^ (3 : Int).toNat) 1) := by rw [eAnd_1 (e_div2 (by omega))]; omega
  refine go_iload (eD DX5_wallBelow 2 rfl) rfl (go_iconst (eD DX5_wallBelow 3 rfl) (go_icmp_geF (tgt := 47) (eD DX5_wallBelow 4 rfl) rfl (by decide) (by decide) (Int.not_le.mpr (show (3 : Int) < 4 from by decide)) (?_)))
  refine go_iload (eD DX5_wallBelow 5 rfl) rfl (go_iload (eD DX5_wallBelow 6 rfl) rfl (go_ishr (eD DX5_wallBelow 7 rfl) (by omega) (show (0 : Int) ≤ 3 ∧ (3 : Int) < 32 from by decide) (go_iconst (eD DX5_wallBelow 8 rfl) (go_iand (eD DX5_wallBelow 9 rfl) (go_iconst (eD DX5_wallBelow 10 rfl) (?_))))))
  by_cases h1 : (eAnd (set / 2 ^ (3 : Int).toNat) 1) = 1
  · refine go_icmp_neF (tgt := 41) (eD DX5_wallBelow 11 rfl) rfl (by omega) (by decide) (not_not_intro h1) ?_
    refine go_aload_n (eD DX5_wallBelow 12 rfl) rfl rfl (go_iload (eD DX5_wallBelow 13 rfl) rfl (go_iload_n (eD DX5_wallBelow 14 rfl) rfl rfl (go_iload_n (eD DX5_wallBelow 15 rfl) rfl rfl (go_iload_n (eD DX5_wallBelow 16 rfl) rfl rfl (go_callV (ci := 5) [(0, 3), (0, px), (0, py), (0, high)] (eD DX5_wallBelow 17 rfl) ⟨eMem 3 222 rfl rfl, sX5_wallTouched⟩ ⟨Nat.le_of_ble_eq_true rfl, Nat.le_of_ble_eq_true rfl⟩ (by decide) ⟨rfl, by decide, _, rfl, rfl⟩ rfl rfl (Nat.le_of_ble_eq_true rfl) (hw (by assumption)) (go_istore (eD DX5_wallBelow 18 rfl) (by decide) (go_iload (eD DX5_wallBelow 19 rfl) rfl (go_bipush (eD DX5_wallBelow 20 rfl) (by decide) (?_)))))))))
    by_cases h2 : wt = (-2)
    · refine go_icmp_eqT (tgt := 41) (eD DX5_wallBelow 21 rfl) rfl (by omega) (by decide) h2 ?_
      exact go_iinc (eD DX5_wallBelow 24 rfl) rfl (by decide) (go_goto (tgt := 3) (eD DX5_wallBelow 25 rfl) rfl (Go.pick [2, 3, 4, 5, 6, 0] rfl (k1 h1 h2)))
    · refine go_icmp_eqF (tgt := 41) (eD DX5_wallBelow 21 rfl) rfl (by omega) (by decide) h2 ?_
      rw [(k2 h1 h2).1, (k2 h1 h2).2]
      exact go_iload (eD DX5_wallBelow 22 rfl) rfl (go_iret (eD DX5_wallBelow 23 rfl) rfl)
  · refine go_icmp_neT (tgt := 41) (eD DX5_wallBelow 11 rfl) rfl (by omega) (by decide) h1 ?_
    exact go_iinc (eD DX5_wallBelow 24 rfl) rfl (by decide) (go_goto (tgt := 3) (eD DX5_wallBelow 25 rfl) rfl (Go.pick [1, 2, 3, 4, 5, 0] rfl (k3 h1)))
set_option maxHeartbeats 4000000 in
set_option maxRecDepth 20000 in
theorem tX5_wallBelow4_3 {r : Option eV} {w9 : eW} (w : eW) (px py high set : Int) (k1 : r = some (0, (-2)) ∧ w9 = w) : Go mX5_wallBelow 3 [(0, eR 16), (1, (0, px)), (2, (0, py)), (3, (0, high)), (4, (0, set)), (5, (0, 4))] [] w r w9 := by
  refine go_iload (eD DX5_wallBelow 2 rfl) rfl (go_iconst (eD DX5_wallBelow 3 rfl) (go_icmp_geT (tgt := 47) (eD DX5_wallBelow 4 rfl) rfl (by decide) (by decide) (Int.not_lt.mp (show ¬ ((4 : Int) < 4) from by decide)) (?_)))
  rw [(k1).1, (k1).2]
  exact go_bipush (eD DX5_wallBelow 26 rfl) (by decide) (go_iret (eD DX5_wallBelow 27 rfl) rfl)
