def rX5_caughtBy (w : eW) (i : Int) : Int := if i < 0 then 0 else (if i < 280 then (w 23 i) else 0)
set_option maxRecDepth 20000 in
theorem zX5_caughtBy (w : eW) (i : Int) (hi : eI i) : Cal mX5_caughtBy [eR 16, (0, i)] w (some (0, rX5_caughtBy w i)) w := by
  unfold rX5_caughtBy
  refine Cal.of (by decide +kernel) (Nat.le_of_ble_eq_true rfl) ?_
  show Go _ 0 [(0, eR 16), (1, (0, i))] [] _ _ _
  refine go_iload_n (eD DX5_caughtBy 0 rfl) rfl rfl (?_)
  by_cases h1 : i < 0
  · refine go_if_ltT (tgt := 22) (eD DX5_caughtBy 1 rfl) rfl (by omega) h1 ?_
    simp only [if_pos h1]
    exact go_iconst (eD DX5_caughtBy 12 rfl) (go_iret (eD DX5_caughtBy 13 rfl) rfl)
  · refine go_if_ltF (tgt := 22) (eD DX5_caughtBy 1 rfl) rfl (by omega) h1 ?_
    refine go_iload_n (eD DX5_caughtBy 2 rfl) rfl rfl (go_aload_n (eD DX5_caughtBy 3 rfl) rfl rfl (go_getR (t := 23) (eD DX5_caughtBy 4 rfl) fX5_32 (by decide) rfl ⟨rfl, rfl⟩ (go_alen (n := 280) (eD DX5_caughtBy 5 rfl) (by decide) rfl (by decide) (?_))))
    by_cases h2 : i < 280
    · refine go_icmp_geF (tgt := 22) (eD DX5_caughtBy 6 rfl) rfl (by omega) (by decide) (Int.not_le.mpr h2) ?_
      simp only [if_neg h1, if_pos h2]
      exact go_aload_n (eD DX5_caughtBy 7 rfl) rfl rfl (go_getR (t := 23) (eD DX5_caughtBy 8 rfl) fX5_32 (by decide) rfl ⟨rfl, rfl⟩ (go_iload_n (eD DX5_caughtBy 9 rfl) rfl rfl (go_iald (n := 280) (eD DX5_caughtBy 10 rfl) (by decide) rfl (by omega) (go_goto (tgt := 23) (eD DX5_caughtBy 11 rfl) rfl (go_iret (eD DX5_caughtBy 13 rfl) rfl)))))
    · refine go_icmp_geT (tgt := 22) (eD DX5_caughtBy 6 rfl) rfl (by omega) (by decide) (Int.not_lt.mp h2) ?_
      simp only [if_neg h1, if_neg h2]
      exact go_iconst (eD DX5_caughtBy 12 rfl) (go_iret (eD DX5_caughtBy 13 rfl) rfl)
def rX5_facing (w : eW) (set : Int) : Int := if set < 0 then 0 else (if set < 16 then (w 22 set) else 0)
set_option maxRecDepth 20000 in
theorem zX5_facing (w : eW) (set : Int) (hset : eI set) : Cal mX5_facing [eR 16, (0, set)] w (some (0, rX5_facing w set)) w := by
  unfold rX5_facing
  refine Cal.of (by decide +kernel) (Nat.le_of_ble_eq_true rfl) ?_
  show Go _ 0 [(0, eR 16), (1, (0, set))] [] _ _ _
  refine go_iload_n (eD DX5_facing 0 rfl) rfl rfl (?_)
  by_cases h1 : set < 0
  · refine go_if_ltT (tgt := 22) (eD DX5_facing 1 rfl) rfl (by omega) h1 ?_
    simp only [if_pos h1]
    exact go_iconst (eD DX5_facing 12 rfl) (go_iret (eD DX5_facing 13 rfl) rfl)
  · refine go_if_ltF (tgt := 22) (eD DX5_facing 1 rfl) rfl (by omega) h1 ?_
    refine go_iload_n (eD DX5_facing 2 rfl) rfl rfl (go_aload_n (eD DX5_facing 3 rfl) rfl rfl (go_getR (t := 22) (eD DX5_facing 4 rfl) fX5_27 (by decide) rfl ⟨rfl, rfl⟩ (go_alen (n := 16) (eD DX5_facing 5 rfl) (by decide) rfl (by decide) (?_))))
    by_cases h2 : set < 16
    · refine go_icmp_geF (tgt := 22) (eD DX5_facing 6 rfl) rfl (by omega) (by decide) (Int.not_le.mpr h2) ?_
      simp only [if_neg h1, if_pos h2]
      exact go_aload_n (eD DX5_facing 7 rfl) rfl rfl (go_getR (t := 22) (eD DX5_facing 8 rfl) fX5_27 (by decide) rfl ⟨rfl, rfl⟩ (go_iload_n (eD DX5_facing 9 rfl) rfl rfl (go_iald (n := 16) (eD DX5_facing 10 rfl) (by decide) rfl (by omega) (go_goto (tgt := 23) (eD DX5_facing 11 rfl) rfl (go_iret (eD DX5_facing 13 rfl) rfl)))))
    · refine go_icmp_geT (tgt := 22) (eD DX5_facing 6 rfl) rfl (by omega) (by decide) (Int.not_lt.mp h2) ?_
      simp only [if_neg h1, if_neg h2]
      exact go_iconst (eD DX5_facing 12 rfl) (go_iret (eD DX5_facing 13 rfl) rfl)
set_option maxHeartbeats 4000000 in
set_option maxRecDepth 20000 in
theorem tX7_wall_0 {r : Option eV} {w9 : eW} (w : eW) (i what : Int) (hB : HB w) {w1 : eW} {vv : Int} (hi : eI i) (hw : eI what) (hc : 0 ≤ w1 13 3 ∧ w1 13 3 ≤ 280) (g1 : Cal mX6_build [eR 13] w none w1) (g2 : 0 ≤ i ∧ i < w1 13 3 → 0 ≤ what ∧ what < 4 → Cal mX6_toldOf [eR 13, (0, i), (0, what)] w1 (some (0, vv)) w1) (k1 : 0 ≤ i ∧ i < (w1 13 3) → what < 0 → r = some (0, (-1)) ∧ w9 = (eU w1 0 2 1)) (k2 : 0 ≤ i ∧ i < (w1 13 3) → ¬ (what < 0) → what < 4 → r = some (0, vv) ∧ w9 = (eU w1 0 2 0)) (k3 : 0 ≤ i ∧ i < (w1 13 3) → ¬ (what < 0) → ¬ (what < 4) → r = some (0, (-1)) ∧ w9 = (eU w1 0 2 1)) (k4 : ¬ (0 ≤ i ∧ i < (w1 13 3)) → r = some (0, (-1)) ∧ w9 = (eU w1 0 2 1)) : Go mX7_wall 0 [(0, eR 0), (1, (0, i)), (2, (0, what))] [] w r w9 := by
  obtain ⟨⟨b1, b2, b3, b4, b5, b6⟩, b7, b8, b9⟩ := id hB
  refine go_aload_n (eD DX7_wall 0 rfl) rfl rfl (go_getR (t := 13) (eD DX7_wall 1 rfl) fX7_54 (by decide) rfl ⟨rfl, rfl⟩ (go_callV (ci := 6) [] (eD DX7_wall 2 rfl) ⟨eMem 2 236 rfl rfl, sX6_build⟩ ⟨Nat.le_of_ble_eq_true rfl, Nat.le_of_ble_eq_true rfl⟩ (by decide) ⟨rfl, by decide, _, rfl, rfl⟩ rfl rfl (Nat.le_of_ble_eq_true rfl) g1 (go_aload_n (eD DX7_wall 3 rfl) rfl rfl (go_getR (t := 13) (eD DX7_wall 4 rfl) fX7_54 (by decide) rfl ⟨rfl, rfl⟩ (go_iload_n (eD DX7_wall 5 rfl) rfl rfl (go_callV (ci := 6) [(0, i)] (eD DX7_wall 6 rfl) ⟨eMem 3 104 rfl rfl, sX6_has⟩ ⟨Nat.le_of_ble_eq_true rfl, Nat.le_of_ble_eq_true rfl⟩ (by decide) ⟨rfl, by decide, _, rfl, rfl⟩ rfl rfl (Nat.le_of_ble_eq_true rfl) (y_b_X6_has w1 i (by omega) (by first | assumption | omega)) (?_)))))))
  by_cases h1 : 0 ≤ i ∧ i < (w1 13 3)
  · refine go_if_eqF (tgt := 27) (eD DX7_wall 7 rfl) rfl (eI_pI _) (pI1 h1) ?_
    refine go_iload_n (eD DX7_wall 8 rfl) rfl rfl (?_)
    by_cases h2 : what < 0
    · refine go_if_ltT (tgt := 27) (eD DX7_wall 9 rfl) rfl (by omega) h2 ?_
      refine go_aload_n (eD DX7_wall 13 rfl) rfl rfl (go_iconst (eD DX7_wall 14 rfl) (?_))
      refine go_callV (ci := 7) [(0, 1)] (eD DX7_wall 15 rfl) ⟨eMem 2 54 rfl rfl, sX7_refuse⟩ ⟨Nat.le_of_ble_eq_true rfl, Nat.le_of_ble_eq_true rfl⟩ (by decide) ⟨rfl, by decide, _, rfl, rfl⟩ rfl rfl (Nat.le_of_ble_eq_true rfl) (Cal.as (zX7_refuse w1 1  ) (r2 := some (0, (-1))) (w2 := (eU w1 0 2 1)) (by (try simp only [rX7_refuse, if_pos h1, if_pos h2]) <;> (try rfl)) (by (try simp only [wX7_refuse, if_pos h1, if_pos h2]) <;> (try rfl))) (?_)
      rw [(k1 h1 h2).1, (k1 h1 h2).2]
      exact go_iret (eD DX7_wall 16 rfl) rfl
    · refine go_if_ltF (tgt := 27) (eD DX7_wall 9 rfl) rfl (by omega) h2 ?_
      refine go_iload_n (eD DX7_wall 10 rfl) rfl rfl (go_iconst (eD DX7_wall 11 rfl) (?_))
      by_cases h3 : what < 4
      · refine go_icmp_ltT (tgt := 33) (eD DX7_wall 12 rfl) rfl (by omega) (by decide) h3 ?_
        refine go_aload_n (eD DX7_wall 17 rfl) rfl rfl (go_aload_n (eD DX7_wall 18 rfl) rfl rfl (go_getR (t := 13) (eD DX7_wall 19 rfl) fX7_54 (by decide) rfl ⟨rfl, rfl⟩ (go_iload_n (eD DX7_wall 20 rfl) rfl rfl (go_iload_n (eD DX7_wall 21 rfl) rfl rfl (go_callV (ci := 6) [(0, i), (0, what)] (eD DX7_wall 22 rfl) ⟨eMem 3 108 rfl rfl, sX6_toldOf⟩ ⟨Nat.le_of_ble_eq_true rfl, Nat.le_of_ble_eq_true rfl⟩ (by decide) ⟨rfl, by decide, _, rfl, rfl⟩ rfl rfl (Nat.le_of_ble_eq_true rfl) (g2 (by omega) (by omega)) (?_))))))
        refine go_callV (ci := 7) [(0, vv)] (eD DX7_wall 23 rfl) ⟨eMem 2 216 rfl rfl, sX7_answer⟩ ⟨Nat.le_of_ble_eq_true rfl, Nat.le_of_ble_eq_true rfl⟩ (by decide) ⟨rfl, by decide, _, rfl, rfl⟩ rfl rfl (Nat.le_of_ble_eq_true rfl) (Cal.as (zX7_answer w1 vv  ) (r2 := some (0, vv)) (w2 := (eU w1 0 2 0)) (by (try simp only [rX7_answer, if_pos h1, if_neg h2, if_pos h3]) <;> (try rfl)) (by (try simp only [wX7_answer, if_pos h1, if_neg h2, if_pos h3]) <;> (try rfl))) (?_)
        rw [(k2 h1 h2 h3).1, (k2 h1 h2 h3).2]
        exact go_iret (eD DX7_wall 24 rfl) rfl
      · refine go_icmp_ltF (tgt := 33) (eD DX7_wall 12 rfl) rfl (by omega) (by decide) h3 ?_
        refine go_aload_n (eD DX7_wall 13 rfl) rfl rfl (go_iconst (eD DX7_wall 14 rfl) (?_))
        refine go_callV (ci := 7) [(0, 1)] (eD DX7_wall 15 rfl) ⟨eMem 2 54 rfl rfl, sX7_refuse⟩ ⟨Nat.le_of_ble_eq_true rfl, Nat.le_of_ble_eq_true rfl⟩ (by decide) ⟨rfl, by decide, _, rfl, rfl⟩ rfl rfl (Nat.le_of_ble_eq_true rfl) (Cal.as (zX7_refuse w1 1  ) (r2 := some (0, (-1))) (w2 := (eU w1 0 2 1)) (by (try simp only [rX7_refuse, if_pos h1, if_neg h2, if_neg h3]) <;> (try rfl)) (by (try simp only [wX7_refuse, if_pos h1, if_neg h2, if_neg h3]) <;> (try rfl))) (?_)
        rw [(k3 h1 h2 h3).1, (k3 h1 h2 h3).2]
        exact go_iret (eD DX7_wall 16 rfl) rfl
  · refine go_if_eqT (tgt := 27) (eD DX7_wall 7 rfl) rfl (eI_pI _) (pI0 h1) ?_
    refine go_aload_n (eD DX7_wall 13 rfl) rfl rfl (go_iconst (eD DX7_wall 14 rfl) (?_))
    refine go_callV (ci := 7) [(0, 1)] (eD DX7_wall 15 rfl) ⟨eMem 2 54 rfl rfl, sX7_refuse⟩ ⟨Nat.le_of_ble_eq_true rfl, Nat.le_of_ble_eq_true rfl⟩ (by decide) ⟨rfl, by decide, _, rfl, rfl⟩ rfl rfl (Nat.le_of_ble_eq_true rfl) (Cal.as (zX7_refuse w1 1  ) (r2 := some (0, (-1))) (w2 := (eU w1 0 2 1)) (by (try simp only [rX7_refuse, if_neg h1]) <;> (try rfl)) (by (try simp only [wX7_refuse, if_neg h1]) <;> (try rfl))) (?_)
    rw [(k4 h1).1, (k4 h1).2]
    exact go_iret (eD DX7_wall 16 rfl) rfl
set_option maxHeartbeats 4000000 in
set_option maxRecDepth 20000 in
theorem tX7_wallOf_0 {r : Option eV} {w9 : eW} (w : eW) (x y side : Int) (hB : HB w) {w1 : eW} {vv : Int} (hx : eI x) (hy : eI y) (hs : eI side) (g1 : Cal mX6_build [eR 13] w none w1) (g2 : 0 ≤ x ∧ x < w 2 0 ∧ 0 ≤ y ∧ y < w 2 1 ∧ 0 ≤ side ∧ side < 4 → Cal mX6_wallAt [eR 13, (0, x), (0, y), (0, side)] w1 (some (0, vv)) w1) (k1 : 0 ≤ x ∧ x < (w 2 0) ∧ 0 ≤ y ∧ y < (w 2 1) → 0 ≤ side ∧ side < 4 → insC w x y → r = some (0, vv) ∧ w9 = (eU w1 0 2 0)) (k2 : 0 ≤ x ∧ x < (w 2 0) ∧ 0 ≤ y ∧ y < (w 2 1) → 0 ≤ side ∧ side < 4 → ¬ (insC w x y) → r = some (0, (-1)) ∧ w9 = (eU w 0 2 5)) (k3 : 0 ≤ x ∧ x < (w 2 0) ∧ 0 ≤ y ∧ y < (w 2 1) → ¬ (0 ≤ side ∧ side < 4) → r = some (0, (-1)) ∧ w9 = (eU w 0 2 1)) (k4 : ¬ (0 ≤ x ∧ x < (w 2 0) ∧ 0 ≤ y ∧ y < (w 2 1)) → r = some (0, (-1)) ∧ w9 = (eU w 0 2 1)) : Go mX7_wallOf 0 [(0, eR 0), (1, (0, x)), (2, (0, y)), (3, (0, side))] [] w r w9 := by
  obtain ⟨⟨b1, b2, b3, b4, b5, b6⟩, b7, b8, b9⟩ := id hB
  refine go_aload_n (eD DX7_wallOf 0 rfl) rfl rfl (go_getR (t := 2) (eD DX7_wallOf 1 rfl) fX7_29 (by decide) rfl ⟨rfl, rfl⟩ (go_iload_n (eD DX7_wallOf 2 rfl) rfl rfl (go_iload_n (eD DX7_wallOf 3 rfl) rfl rfl (go_callV (ci := 0) [(0, x), (0, y)] (eD DX7_wallOf 4 rfl) ⟨eMem 3 90 rfl rfl, sX0_hasCell⟩ ⟨Nat.le_of_ble_eq_true rfl, Nat.le_of_ble_eq_true rfl⟩ (by decide) ⟨rfl, by decide, _, rfl, rfl⟩ rfl rfl (Nat.le_of_ble_eq_true rfl) (y_b_X0_hasCell w x y (by omega) (by omega) (by first | assumption | omega)) (?_)))))
  by_cases h1 : 0 ≤ x ∧ x < (w 2 0) ∧ 0 ≤ y ∧ y < (w 2 1)
  · refine go_if_eqF (tgt := 19) (eD DX7_wallOf 5 rfl) rfl (eI_pI _) (pI1 h1) ?_
    refine go_iload_n (eD DX7_wallOf 6 rfl) rfl rfl (go_callS [(0, side)] (eD DX7_wallOf 7 rfl) ⟨eMem 3 96 rfl rfl, sX7_isSide⟩ ⟨Nat.le_of_ble_eq_true rfl, Nat.le_of_ble_eq_true rfl⟩ rfl rfl (Nat.le_of_ble_eq_true rfl) (y_b_X7_isSide w side (by omega) ) (?_))
    by_cases h2 : 0 ≤ side ∧ side < 4
    · refine go_if_neT (tgt := 25) (eD DX7_wallOf 8 rfl) rfl (eI_pI _) (pI1 h2) ?_
      refine go_aload_n (eD DX7_wallOf 13 rfl) rfl rfl (go_getR (t := 2) (eD DX7_wallOf 14 rfl) fX7_29 (by decide) rfl ⟨rfl, rfl⟩ (go_iload_n (eD DX7_wallOf 15 rfl) rfl rfl (go_iload_n (eD DX7_wallOf 16 rfl) rfl rfl (go_callV (ci := 0) [(0, x), (0, y)] (eD DX7_wallOf 17 rfl) ⟨eMem 3 91 rfl rfl, sX0_isInside⟩ ⟨Nat.le_of_ble_eq_true rfl, Nat.le_of_ble_eq_true rfl⟩ (by decide) ⟨rfl, by decide, _, rfl, rfl⟩ rfl rfl (Nat.le_of_ble_eq_true rfl) (y_b_X0_isInside w x y (by omega) (by omega) (by assumption)) (?_)))))
      by_cases h3 : insC w x y
      · refine go_if_neT (tgt := 43) (eD DX7_wallOf 18 rfl) rfl (eI_pI _) (pI1 h3) ?_
        refine go_aload_n (eD DX7_wallOf 23 rfl) rfl rfl (go_getR (t := 13) (eD DX7_wallOf 24 rfl) fX7_54 (by decide) rfl ⟨rfl, rfl⟩ (go_callV (ci := 6) [] (eD DX7_wallOf 25 rfl) ⟨eMem 2 236 rfl rfl, sX6_build⟩ ⟨Nat.le_of_ble_eq_true rfl, Nat.le_of_ble_eq_true rfl⟩ (by decide) ⟨rfl, by decide, _, rfl, rfl⟩ rfl rfl (Nat.le_of_ble_eq_true rfl) g1 (go_aload_n (eD DX7_wallOf 26 rfl) rfl rfl (go_aload_n (eD DX7_wallOf 27 rfl) rfl rfl (go_getR (t := 13) (eD DX7_wallOf 28 rfl) fX7_54 (by decide) rfl ⟨rfl, rfl⟩ (go_iload_n (eD DX7_wallOf 29 rfl) rfl rfl (go_iload_n (eD DX7_wallOf 30 rfl) rfl rfl (go_iload_n (eD DX7_wallOf 31 rfl) rfl rfl (go_callV (ci := 6) [(0, x), (0, y), (0, side)] (eD DX7_wallOf 32 rfl) ⟨eMem 3 116 rfl rfl, sX6_wallAt⟩ ⟨Nat.le_of_ble_eq_true rfl, Nat.le_of_ble_eq_true rfl⟩ (by decide) ⟨rfl, by decide, _, rfl, rfl⟩ rfl rfl (Nat.le_of_ble_eq_true rfl) (g2 (by omega)) (?_))))))))))
        refine go_callV (ci := 7) [(0, vv)] (eD DX7_wallOf 33 rfl) ⟨eMem 2 216 rfl rfl, sX7_answer⟩ ⟨Nat.le_of_ble_eq_true rfl, Nat.le_of_ble_eq_true rfl⟩ (by decide) ⟨rfl, by decide, _, rfl, rfl⟩ rfl rfl (Nat.le_of_ble_eq_true rfl) (Cal.as (zX7_answer w1 vv  ) (r2 := some (0, vv)) (w2 := (eU w1 0 2 0)) (by (try simp only [rX7_answer, if_pos h1, if_pos h2, if_pos h3]) <;> (try rfl)) (by (try simp only [wX7_answer, if_pos h1, if_pos h2, if_pos h3]) <;> (try rfl))) (?_)
        rw [(k1 h1 h2 h3).1, (k1 h1 h2 h3).2]
        exact go_iret (eD DX7_wallOf 34 rfl) rfl
      · refine go_if_neF (tgt := 43) (eD DX7_wallOf 18 rfl) rfl (eI_pI _) (not_not_intro (pI0 h3)) ?_
        refine go_aload_n (eD DX7_wallOf 19 rfl) rfl rfl (go_iconst (eD DX7_wallOf 20 rfl) (?_))
        refine go_callV (ci := 7) [(0, 5)] (eD DX7_wallOf 21 rfl) ⟨eMem 2 54 rfl rfl, sX7_refuse⟩ ⟨Nat.le_of_ble_eq_true rfl, Nat.le_of_ble_eq_true rfl⟩ (by decide) ⟨rfl, by decide, _, rfl, rfl⟩ rfl rfl (Nat.le_of_ble_eq_true rfl) (Cal.as (zX7_refuse w 5  ) (r2 := some (0, (-1))) (w2 := (eU w 0 2 5)) (by (try simp only [rX7_refuse, if_pos h1, if_pos h2, if_neg h3]) <;> (try rfl)) (by (try simp only [wX7_refuse, if_pos h1, if_pos h2, if_neg h3]) <;> (try rfl))) (?_)
        rw [(k2 h1 h2 h3).1, (k2 h1 h2 h3).2]
        exact go_iret (eD DX7_wallOf 22 rfl) rfl
    · refine go_if_neF (tgt := 25) (eD DX7_wallOf 8 rfl) rfl (eI_pI _) (not_not_intro (pI0 h2)) ?_
      refine go_aload_n (eD DX7_wallOf 9 rfl) rfl rfl (go_iconst (eD DX7_wallOf 10 rfl) (?_))
      refine go_callV (ci := 7) [(0, 1)] (eD DX7_wallOf 11 rfl) ⟨eMem 2 54 rfl rfl, sX7_refuse⟩ ⟨Nat.le_of_ble_eq_true rfl, Nat.le_of_ble_eq_true rfl⟩ (by decide) ⟨rfl, by decide, _, rfl, rfl⟩ rfl rfl (Nat.le_of_ble_eq_true rfl) (Cal.as (zX7_refuse w 1  ) (r2 := some (0, (-1))) (w2 := (eU w 0 2 1)) (by (try simp only [rX7_refuse, if_pos h1, if_neg h2]) <;> (try rfl)) (by (try simp only [wX7_refuse, if_pos h1, if_neg h2]) <;> (try rfl))) (?_)
      rw [(k3 h1 h2).1, (k3 h1 h2).2]
      exact go_iret (eD DX7_wallOf 12 rfl) rfl
  · refine go_if_eqT (tgt := 19) (eD DX7_wallOf 5 rfl) rfl (eI_pI _) (pI0 h1) ?_
    refine go_aload_n (eD DX7_wallOf 9 rfl) rfl rfl (go_iconst (eD DX7_wallOf 10 rfl) (?_))
    refine go_callV (ci := 7) [(0, 1)] (eD DX7_wallOf 11 rfl) ⟨eMem 2 54 rfl rfl, sX7_refuse⟩ ⟨Nat.le_of_ble_eq_true rfl, Nat.le_of_ble_eq_true rfl⟩ (by decide) ⟨rfl, by decide, _, rfl, rfl⟩ rfl rfl (Nat.le_of_ble_eq_true rfl) (Cal.as (zX7_refuse w 1  ) (r2 := some (0, (-1))) (w2 := (eU w 0 2 1)) (by (try simp only [rX7_refuse, if_neg h1]) <;> (try rfl)) (by (try simp only [wX7_refuse, if_neg h1]) <;> (try rfl))) (?_)
    rw [(k4 h1).1, (k4 h1).2]
    exact go_iret (eD DX7_wallOf 12 rfl) rfl
set_option maxHeartbeats 4000000 in
set_option maxRecDepth 20000 in
theorem tX7_height_0 {r : Option eV} {w9 : eW} (w : eW) (px py what : Int) (hB : HB w) {w1 : eW} {hh : Int} (hx : eI px) (hy : eI py) (hw : eI what) (hh2 : 0 ≤ hh ∧ hh ≤ 200000) (g1 : (0 < w 2 0 ∧ 0 < w 2 1) → 0 ≤ px ∧ px ≤ 4 * w 2 0 ∧ 0 ≤ py ∧ py ≤ 4 * w 2 1 → Cal mX5_heightOf [eR 16, (0, px), (0, py)] w (some (0, hh)) w1) (k1 : 0 < (w 2 0) ∧ 0 < (w 2 1) → what = 0 ∨ what = 1 → 0 ≤ px ∧ px ≤ 4 * (w 2 0) ∧ 0 ≤ py ∧ py ≤ 4 * (w 2 1) → r = some (0, rX2_part32 (eU (eU w1 32 0 (rdA hh 10080)) 32 1 (rdB hh 10080)) what) ∧ w9 = (eU (eU (eU w1 32 0 (rdA hh 10080)) 32 1 (rdB hh 10080)) 0 2 0)) (k2 : 0 < (w 2 0) ∧ 0 < (w 2 1) → what = 0 ∨ what = 1 → ¬ (0 ≤ px ∧ px ≤ 4 * (w 2 0) ∧ 0 ≤ py ∧ py ≤ 4 * (w 2 1)) → r = some (0, (-1)) ∧ w9 = (eU w 0 2 2)) (k3 : 0 < (w 2 0) ∧ 0 < (w 2 1) → ¬ (what = 0 ∨ what = 1) → r = some (0, (-1)) ∧ w9 = (eU w 0 2 1)) (k4 : ¬ (0 < (w 2 0) ∧ 0 < (w 2 1)) → r = some (0, (-1)) ∧ w9 = (eU w 0 2 1)) : Go mX7_height 0 [(0, eR 0), (1, (0, px)), (2, (0, py)), (3, (0, what))] [] w r w9 := by
  obtain ⟨⟨b1, b2, b3, b4, b5, b6⟩, b7, b8, b9⟩ := id hB
  refine go_aload_n (eD DX7_height 0 rfl) rfl rfl (go_getR (t := 2) (eD DX7_height 1 rfl) fX7_29 (by decide) rfl ⟨rfl, rfl⟩ (go_callV (ci := 0) [] (eD DX7_height 2 rfl) ⟨eMem 2 232 rfl rfl, sX0_stands⟩ ⟨Nat.le_of_ble_eq_true rfl, Nat.le_of_ble_eq_true rfl⟩ (by decide) ⟨rfl, by decide, _, rfl, rfl⟩ rfl rfl (Nat.le_of_ble_eq_true rfl) (y_b_X0_stands w  (by first | assumption | omega)) (?_)))
  by_cases h1 : 0 < (w 2 0) ∧ 0 < (w 2 1)
  · refine go_if_eqF (tgt := 17) (eD DX7_height 3 rfl) rfl (eI_pI _) (pI1 h1) ?_
    refine go_iload_n (eD DX7_height 4 rfl) rfl rfl (go_callS [(0, what)] (eD DX7_height 5 rfl) ⟨eMem 3 128 rfl rfl, sX7_isPartOfTwo⟩ ⟨Nat.le_of_ble_eq_true rfl, Nat.le_of_ble_eq_true rfl⟩ rfl rfl (Nat.le_of_ble_eq_true rfl) (y_b_X7_isPartOfTwo w what (by omega) ) (?_))
    by_cases h2 : what = 0 ∨ what = 1
    · refine go_if_neT (tgt := 23) (eD DX7_height 6 rfl) rfl (eI_pI _) (pI1 h2) ?_
      refine go_aload_n (eD DX7_height 11 rfl) rfl rfl (go_getR (t := 2) (eD DX7_height 12 rfl) fX7_29 (by decide) rfl ⟨rfl, rfl⟩ (go_iload_n (eD DX7_height 13 rfl) rfl rfl (go_iload_n (eD DX7_height 14 rfl) rfl rfl (go_callV (ci := 0) [(0, px), (0, py)] (eD DX7_height 15 rfl) ⟨eMem 3 139 rfl rfl, sX0_hasPoint⟩ ⟨Nat.le_of_ble_eq_true rfl, Nat.le_of_ble_eq_true rfl⟩ (by decide) ⟨rfl, by decide, _, rfl, rfl⟩ rfl rfl (Nat.le_of_ble_eq_true rfl) (y_b_X0_hasPoint w px py (by omega) (by omega) (by first | assumption | omega)) (?_)))))
      by_cases h3 : 0 ≤ px ∧ px ≤ 4 * (w 2 0) ∧ 0 ≤ py ∧ py ≤ 4 * (w 2 1)
      · refine go_if_neT (tgt := 41) (eD DX7_height 16 rfl) rfl (eI_pI _) (pI1 h3) ?_
        refine go_aload_n (eD DX7_height 21 rfl) rfl rfl (go_getR (t := 32) (eD DX7_height 22 rfl) fX7_77 (by decide) rfl ⟨rfl, rfl⟩ (go_aload_n (eD DX7_height 23 rfl) rfl rfl (go_getR (t := 16) (eD DX7_height 24 rfl) fX7_63 (by decide) rfl ⟨rfl, rfl⟩ (go_iload_n (eD DX7_height 25 rfl) rfl rfl (go_iload_n (eD DX7_height 26 rfl) rfl rfl (go_callV (ci := 5) [(0, px), (0, py)] (eD DX7_height 27 rfl) ⟨eMem 3 143 rfl rfl, sX5_heightOf⟩ ⟨Nat.le_of_ble_eq_true rfl, Nat.le_of_ble_eq_true rfl⟩ (by decide) ⟨rfl, by decide, _, rfl, rfl⟩ rfl rfl (Nat.le_of_ble_eq_true rfl) (g1 (by omega) (by omega)) (go_i2l (eD DX7_height 28 rfl) (by omega) (go_ldc2 (n := 10080) (eD DX7_height 29 rfl) (eMem 3 191 rfl rfl) (go_callV (ci := 2) [(1, hh), (1, 10080)] (eD DX7_height 30 rfl) ⟨eMem 3 192 rfl rfl, sX2_reduce⟩ ⟨Nat.le_of_ble_eq_true rfl, Nat.le_of_ble_eq_true rfl⟩ (by decide) ⟨rfl, by decide, _, rfl, rfl⟩ rfl rfl (Nat.le_of_ble_eq_true rfl) (y_X2_reduce32 w1 hh 10080 (by omega) (by omega)) (go_aload_n (eD DX7_height 31 rfl) rfl rfl (go_aload_n (eD DX7_height 32 rfl) rfl rfl (go_getR (t := 32) (eD DX7_height 33 rfl) fX7_77 (by decide) rfl ⟨rfl, rfl⟩ (go_iload_n (eD DX7_height 34 rfl) rfl rfl (go_callV (ci := 2) [(0, what)] (eD DX7_height 35 rfl) ⟨eMem 3 193 rfl rfl, sX2_part⟩ ⟨Nat.le_of_ble_eq_true rfl, Nat.le_of_ble_eq_true rfl⟩ (by decide) ⟨rfl, by decide, _, rfl, rfl⟩ rfl rfl (Nat.le_of_ble_eq_true rfl) (zX2_part32 (eU (eU w1 32 0 (rdA hh 10080)) 32 1 (rdB hh 10080)) what (by omega)) (go_l2i (eD DX7_height 36 rfl) (?_))))))))))))))))
        refine go_callV (ci := 7) [(0, rX2_part32 (eU (eU w1 32 0 (rdA hh 10080)) 32 1 (rdB hh 10080)) what)] (eD DX7_height 37 rfl) ⟨eMem 2 216 rfl rfl, sX7_answer⟩ ⟨Nat.le_of_ble_eq_true rfl, Nat.le_of_ble_eq_true rfl⟩ (by decide) ⟨rfl, by decide, _, rfl, rfl⟩ rfl rfl (Nat.le_of_ble_eq_true rfl) (Cal.as (zX7_answer (eU (eU w1 32 0 (rdA hh 10080)) 32 1 (rdB hh 10080)) (rX2_part32 (eU (eU w1 32 0 (rdA hh 10080)) 32 1 (rdB hh 10080)) what)  ) (r2 := some (0, rX2_part32 (eU (eU w1 32 0 (rdA hh 10080)) 32 1 (rdB hh 10080)) what)) (w2 := (eU (eU (eU w1 32 0 (rdA hh 10080)) 32 1 (rdB hh 10080)) 0 2 0)) (by (try simp only [rX7_answer, if_pos h1, if_pos h2, if_pos h3]) <;> (try rfl)) (by (try simp only [wX7_answer, if_pos h1, if_pos h2, if_pos h3]) <;> (try rfl))) (?_)
        rw [(k1 h1 h2 h3).1, (k1 h1 h2 h3).2]
        exact go_iret (eD DX7_height 38 rfl) rfl
      · refine go_if_neF (tgt := 41) (eD DX7_height 16 rfl) rfl (eI_pI _) (not_not_intro (pI0 h3)) ?_
        refine go_aload_n (eD DX7_height 17 rfl) rfl rfl (go_iconst (eD DX7_height 18 rfl) (?_))
        refine go_callV (ci := 7) [(0, 2)] (eD DX7_height 19 rfl) ⟨eMem 2 54 rfl rfl, sX7_refuse⟩ ⟨Nat.le_of_ble_eq_true rfl, Nat.le_of_ble_eq_true rfl⟩ (by decide) ⟨rfl, by decide, _, rfl, rfl⟩ rfl rfl (Nat.le_of_ble_eq_true rfl) (Cal.as (zX7_refuse w 2  ) (r2 := some (0, (-1))) (w2 := (eU w 0 2 2)) (by (try simp only [rX7_refuse, if_pos h1, if_pos h2, if_neg h3]) <;> (try rfl)) (by (try simp only [wX7_refuse, if_pos h1, if_pos h2, if_neg h3]) <;> (try rfl))) (?_)
        rw [(k2 h1 h2 h3).1, (k2 h1 h2 h3).2]
        exact go_iret (eD DX7_height 20 rfl) rfl
    · refine go_if_neF (tgt := 23) (eD DX7_height 6 rfl) rfl (eI_pI _) (not_not_intro (pI0 h2)) ?_
      refine go_aload_n (eD DX7_height 7 rfl) rfl rfl (go_iconst (eD DX7_height 8 rfl) (?_))
      refine go_callV (ci := 7) [(0, 1)] (eD DX7_height 9 rfl) ⟨eMem 2 54 rfl rfl, sX7_refuse⟩ ⟨Nat.le_of_ble_eq_true rfl, Nat.le_of_ble_eq_true rfl⟩ (by decide) ⟨rfl, by decide, _, rfl, rfl⟩ rfl rfl (Nat.le_of_ble_eq_true rfl) (Cal.as (zX7_refuse w 1  ) (r2 := some (0, (-1))) (w2 := (eU w 0 2 1)) (by (try simp only [rX7_refuse, if_pos h1, if_neg h2]) <;> (try rfl)) (by (try simp only [wX7_refuse, if_pos h1, if_neg h2]) <;> (try rfl))) (?_)
      rw [(k3 h1 h2).1, (k3 h1 h2).2]
      exact go_iret (eD DX7_height 10 rfl) rfl
  · refine go_if_eqT (tgt := 17) (eD DX7_height 3 rfl) rfl (eI_pI _) (pI0 h1) ?_
    refine go_aload_n (eD DX7_height 7 rfl) rfl rfl (go_iconst (eD DX7_height 8 rfl) (?_))
    refine go_callV (ci := 7) [(0, 1)] (eD DX7_height 9 rfl) ⟨eMem 2 54 rfl rfl, sX7_refuse⟩ ⟨Nat.le_of_ble_eq_true rfl, Nat.le_of_ble_eq_true rfl⟩ (by decide) ⟨rfl, by decide, _, rfl, rfl⟩ rfl rfl (Nat.le_of_ble_eq_true rfl) (Cal.as (zX7_refuse w 1  ) (r2 := some (0, (-1))) (w2 := (eU w 0 2 1)) (by (try simp only [rX7_refuse, if_neg h1]) <;> (try rfl)) (by (try simp only [wX7_refuse, if_neg h1]) <;> (try rfl))) (?_)
    rw [(k4 h1).1, (k4 h1).2]
    exact go_iret (eD DX7_height 10 rfl) rfl
set_option maxHeartbeats 4000000 in
set_option maxRecDepth 20000 in
theorem tX7_slopes_0 {r : Option eV} {w9 : eW} (w : eW) (px py : Int) (hB : HB w) {tt : Int} (ht : eI tt) (g0 : Cal mX7_pointTrouble [eR 0, (0, px), (0, py)] w (some (0, tt)) w) {w1 : eW} {hh sl : Int} (g1 : tt = 0 → Cal mX5_heightOf [eR 16, (0, px), (0, py)] w (some (0, hh)) w1) (g2 : tt = 0 → Cal mX5_slopesAt [eR 16, (0, px), (0, py), (0, hh)] w1 (some (0, sl)) w1) (k1 : tt = 0 → r = some (0, sl) ∧ w9 = (eU w1 0 2 0)) (k2 : ¬ (tt = 0) → r = some (0, (-1)) ∧ w9 = (eU w 0 2 tt)) : Go mX7_slopes 0 [(0, eR 0), (1, (0, px)), (2, (0, py))] [] w r w9 := by
  obtain ⟨⟨b1, b2, b3, b4, b5, b6⟩, b7, b8, b9⟩ := id hB
  refine go_aload_n (eD DX7_slopes 0 rfl) rfl rfl (go_iload_n (eD DX7_slopes 1 rfl) rfl rfl (go_iload_n (eD DX7_slopes 2 rfl) rfl rfl (go_callV (ci := 7) [(0, px), (0, py)] (eD DX7_slopes 3 rfl) ⟨eMem 3 198 rfl rfl, sX7_pointTrouble⟩ ⟨Nat.le_of_ble_eq_true rfl, Nat.le_of_ble_eq_true rfl⟩ (by decide) ⟨rfl, by decide, _, rfl, rfl⟩ rfl rfl (Nat.le_of_ble_eq_true rfl) g0 (go_istore_n (eD DX7_slopes 4 rfl) rfl (by decide) (go_iload_n (eD DX7_slopes 5 rfl) rfl rfl (?_))))))
  by_cases h1 : tt = 0
  · refine go_if_eqT (tgt := 17) (eD DX7_slopes 6 rfl) rfl (by omega) h1 ?_
    refine go_aload_n (eD DX7_slopes 11 rfl) rfl rfl (go_getR (t := 16) (eD DX7_slopes 12 rfl) fX7_63 (by decide) rfl ⟨rfl, rfl⟩ (go_iload_n (eD DX7_slopes 13 rfl) rfl rfl (go_iload_n (eD DX7_slopes 14 rfl) rfl rfl (go_callV (ci := 5) [(0, px), (0, py)] (eD DX7_slopes 15 rfl) ⟨eMem 3 143 rfl rfl, sX5_heightOf⟩ ⟨Nat.le_of_ble_eq_true rfl, Nat.le_of_ble_eq_true rfl⟩ (by decide) ⟨rfl, by decide, _, rfl, rfl⟩ rfl rfl (Nat.le_of_ble_eq_true rfl) (g1 (by omega)) (go_istore (eD DX7_slopes 16 rfl) (by decide) (go_aload_n (eD DX7_slopes 17 rfl) rfl rfl (go_aload_n (eD DX7_slopes 18 rfl) rfl rfl (go_getR (t := 16) (eD DX7_slopes 19 rfl) fX7_63 (by decide) rfl ⟨rfl, rfl⟩ (go_iload_n (eD DX7_slopes 20 rfl) rfl rfl (go_iload_n (eD DX7_slopes 21 rfl) rfl rfl (go_iload (eD DX7_slopes 22 rfl) rfl (go_callV (ci := 5) [(0, px), (0, py), (0, hh)] (eD DX7_slopes 23 rfl) ⟨eMem 3 202 rfl rfl, sX5_slopesAt⟩ ⟨Nat.le_of_ble_eq_true rfl, Nat.le_of_ble_eq_true rfl⟩ (by decide) ⟨rfl, by decide, _, rfl, rfl⟩ rfl rfl (Nat.le_of_ble_eq_true rfl) (g2 (by omega)) (?_)))))))))))))
    refine go_callV (ci := 7) [(0, sl)] (eD DX7_slopes 24 rfl) ⟨eMem 2 216 rfl rfl, sX7_answer⟩ ⟨Nat.le_of_ble_eq_true rfl, Nat.le_of_ble_eq_true rfl⟩ (by decide) ⟨rfl, by decide, _, rfl, rfl⟩ rfl rfl (Nat.le_of_ble_eq_true rfl) (Cal.as (zX7_answer w1 sl  ) (r2 := some (0, sl)) (w2 := (eU w1 0 2 0)) (by (try simp only [rX7_answer, if_pos h1]) <;> (try rfl)) (by (try simp only [wX7_answer, if_pos h1]) <;> (try rfl))) (?_)
    rw [(k1 h1).1, (k1 h1).2]
    exact go_iret (eD DX7_slopes 25 rfl) rfl
  · refine go_if_eqF (tgt := 17) (eD DX7_slopes 6 rfl) rfl (by omega) h1 ?_
    refine go_aload_n (eD DX7_slopes 7 rfl) rfl rfl (go_iload_n (eD DX7_slopes 8 rfl) rfl rfl (?_))
    refine go_callV (ci := 7) [(0, tt)] (eD DX7_slopes 9 rfl) ⟨eMem 2 54 rfl rfl, sX7_refuse⟩ ⟨Nat.le_of_ble_eq_true rfl, Nat.le_of_ble_eq_true rfl⟩ (by decide) ⟨rfl, by decide, _, rfl, rfl⟩ rfl rfl (Nat.le_of_ble_eq_true rfl) (Cal.as (zX7_refuse w tt  ) (r2 := some (0, (-1))) (w2 := (eU w 0 2 tt)) (by (try simp only [rX7_refuse, if_neg h1]) <;> (try rfl)) (by (try simp only [wX7_refuse, if_neg h1]) <;> (try rfl))) (?_)
    rw [(k2 h1).1, (k2 h1).2]
    exact go_iret (eD DX7_slopes 10 rfl) rfl
set_option maxHeartbeats 4000000 in
set_option maxRecDepth 20000 in
theorem tX7_drop_0 {r : Option eV} {w9 : eW} (w : eW) (px py : Int) (hB : HB w) {tt : Int} (ht : eI tt) (g0 : Cal mX7_pointTrouble [eR 0, (0, px), (0, py)] w (some (0, tt)) w) {w1 w2 : eW} {hh sl dd : Int} (g1 : Cal mX6_build [eR 13] w none w1) (g2 : tt = 0 → Cal mX5_heightOf [eR 16, (0, px), (0, py)] w1 (some (0, hh)) w2) (g3 : tt = 0 → Cal mX5_slopesAt [eR 16, (0, px), (0, py), (0, hh)] w2 (some (0, sl)) w2) (g4 : tt = 0 → Cal mX5_wallBelow [eR 16, (0, px), (0, py), (0, hh), (0, sl)] w2 (some (0, dd)) w2) (k1 : tt = 0 → r = some (0, dd) ∧ w9 = (eU w2 0 2 0)) (k2 : ¬ (tt = 0) → r = some (0, (-1)) ∧ w9 = (eU w 0 2 tt)) : Go mX7_drop 0 [(0, eR 0), (1, (0, px)), (2, (0, py))] [] w r w9 := by
  obtain ⟨⟨b1, b2, b3, b4, b5, b6⟩, b7, b8, b9⟩ := id hB
  refine go_aload_n (eD DX7_drop 0 rfl) rfl rfl (go_iload_n (eD DX7_drop 1 rfl) rfl rfl (go_iload_n (eD DX7_drop 2 rfl) rfl rfl (go_callV (ci := 7) [(0, px), (0, py)] (eD DX7_drop 3 rfl) ⟨eMem 3 198 rfl rfl, sX7_pointTrouble⟩ ⟨Nat.le_of_ble_eq_true rfl, Nat.le_of_ble_eq_true rfl⟩ (by decide) ⟨rfl, by decide, _, rfl, rfl⟩ rfl rfl (Nat.le_of_ble_eq_true rfl) g0 (go_istore_n (eD DX7_drop 4 rfl) rfl (by decide) (go_iload_n (eD DX7_drop 5 rfl) rfl rfl (?_))))))
  by_cases h1 : tt = 0
  · refine go_if_eqT (tgt := 17) (eD DX7_drop 6 rfl) rfl (by omega) h1 ?_
    refine go_aload_n (eD DX7_drop 11 rfl) rfl rfl (go_getR (t := 13) (eD DX7_drop 12 rfl) fX7_54 (by decide) rfl ⟨rfl, rfl⟩ (go_callV (ci := 6) [] (eD DX7_drop 13 rfl) ⟨eMem 2 236 rfl rfl, sX6_build⟩ ⟨Nat.le_of_ble_eq_true rfl, Nat.le_of_ble_eq_true rfl⟩ (by decide) ⟨rfl, by decide, _, rfl, rfl⟩ rfl rfl (Nat.le_of_ble_eq_true rfl) g1 (go_aload_n (eD DX7_drop 14 rfl) rfl rfl (go_getR (t := 16) (eD DX7_drop 15 rfl) fX7_63 (by decide) rfl ⟨rfl, rfl⟩ (go_iload_n (eD DX7_drop 16 rfl) rfl rfl (go_iload_n (eD DX7_drop 17 rfl) rfl rfl (go_callV (ci := 5) [(0, px), (0, py)] (eD DX7_drop 18 rfl) ⟨eMem 3 143 rfl rfl, sX5_heightOf⟩ ⟨Nat.le_of_ble_eq_true rfl, Nat.le_of_ble_eq_true rfl⟩ (by decide) ⟨rfl, by decide, _, rfl, rfl⟩ rfl rfl (Nat.le_of_ble_eq_true rfl) (g2 (by omega)) (go_istore (eD DX7_drop 19 rfl) (by decide) (go_aload_n (eD DX7_drop 20 rfl) rfl rfl (go_aload_n (eD DX7_drop 21 rfl) rfl rfl (go_getR (t := 16) (eD DX7_drop 22 rfl) fX7_63 (by decide) rfl ⟨rfl, rfl⟩ (go_iload_n (eD DX7_drop 23 rfl) rfl rfl (go_iload_n (eD DX7_drop 24 rfl) rfl rfl (go_iload (eD DX7_drop 25 rfl) rfl (go_aload_n (eD DX7_drop 26 rfl) rfl rfl (go_getR (t := 16) (eD DX7_drop 27 rfl) fX7_63 (by decide) rfl ⟨rfl, rfl⟩ (go_iload_n (eD DX7_drop 28 rfl) rfl rfl (go_iload_n (eD DX7_drop 29 rfl) rfl rfl (go_iload (eD DX7_drop 30 rfl) rfl (go_callV (ci := 5) [(0, px), (0, py), (0, hh)] (eD DX7_drop 31 rfl) ⟨eMem 3 202 rfl rfl, sX5_slopesAt⟩ ⟨Nat.le_of_ble_eq_true rfl, Nat.le_of_ble_eq_true rfl⟩ (by decide) ⟨rfl, by decide, _, rfl, rfl⟩ rfl rfl (Nat.le_of_ble_eq_true rfl) (g3 (by omega)) (go_callV (ci := 5) [(0, px), (0, py), (0, hh), (0, sl)] (eD DX7_drop 32 rfl) ⟨eMem 3 218 rfl rfl, sX5_wallBelow⟩ ⟨Nat.le_of_ble_eq_true rfl, Nat.le_of_ble_eq_true rfl⟩ (by decide) ⟨rfl, by decide, _, rfl, rfl⟩ rfl rfl (Nat.le_of_ble_eq_true rfl) (g4 (by omega)) (?_))))))))))))))))))))))
    refine go_callV (ci := 7) [(0, dd)] (eD DX7_drop 33 rfl) ⟨eMem 2 216 rfl rfl, sX7_answer⟩ ⟨Nat.le_of_ble_eq_true rfl, Nat.le_of_ble_eq_true rfl⟩ (by decide) ⟨rfl, by decide, _, rfl, rfl⟩ rfl rfl (Nat.le_of_ble_eq_true rfl) (Cal.as (zX7_answer w2 dd  ) (r2 := some (0, dd)) (w2 := (eU w2 0 2 0)) (by (try simp only [rX7_answer, if_pos h1]) <;> (try rfl)) (by (try simp only [wX7_answer, if_pos h1]) <;> (try rfl))) (?_)
    rw [(k1 h1).1, (k1 h1).2]
    exact go_iret (eD DX7_drop 34 rfl) rfl
  · refine go_if_eqF (tgt := 17) (eD DX7_drop 6 rfl) rfl (by omega) h1 ?_
    refine go_aload_n (eD DX7_drop 7 rfl) rfl rfl (go_iload_n (eD DX7_drop 8 rfl) rfl rfl (?_))
    refine go_callV (ci := 7) [(0, tt)] (eD DX7_drop 9 rfl) ⟨eMem 2 54 rfl rfl, sX7_refuse⟩ ⟨Nat.le_of_ble_eq_true rfl, Nat.le_of_ble_eq_true rfl⟩ (by decide) ⟨rfl, by decide, _, rfl, rfl⟩ rfl rfl (Nat.le_of_ble_eq_true rfl) (Cal.as (zX7_refuse w tt  ) (r2 := some (0, (-1))) (w2 := (eU w 0 2 tt)) (by (try simp only [rX7_refuse, if_neg h1]) <;> (try rfl)) (by (try simp only [wX7_refuse, if_neg h1]) <;> (try rfl))) (?_)
    rw [(k2 h1).1, (k2 h1).2]
    exact go_iret (eD DX7_drop 10 rfl) rfl
set_option maxHeartbeats 4000000 in
set_option maxRecDepth 20000 in
theorem tX7_catches_0 {r : Option eV} {w9 : eW} (w : eW) (i : Int) (hB : HB w) {w1 w2 : eW} {vv : Int} (hi : eI i) (hc : 0 ≤ w1 13 3 ∧ w1 13 3 ≤ 280) (g1 : Cal mX6_build [eR 13] w none w1) (g2 : 0 ≤ i ∧ i < w1 13 3 → Cal mX5_countFalls [eR 16] w1 none w2) (g3 : 0 ≤ i ∧ i < w1 13 3 → Cal mX5_caughtBy [eR 16, (0, i)] w2 (some (0, vv)) w2) (k1 : 0 ≤ i ∧ i < (w1 13 3) → r = some (0, vv) ∧ w9 = (eU w2 0 2 0)) (k2 : ¬ (0 ≤ i ∧ i < (w1 13 3)) → r = some (0, (-1)) ∧ w9 = (eU w1 0 2 1)) : Go mX7_catches 0 [(0, eR 0), (1, (0, i))] [] w r w9 := by
  obtain ⟨⟨b1, b2, b3, b4, b5, b6⟩, b7, b8, b9⟩ := id hB
  refine go_aload_n (eD DX7_catches 0 rfl) rfl rfl (go_getR (t := 13) (eD DX7_catches 1 rfl) fX7_54 (by decide) rfl ⟨rfl, rfl⟩ (go_callV (ci := 6) [] (eD DX7_catches 2 rfl) ⟨eMem 2 236 rfl rfl, sX6_build⟩ ⟨Nat.le_of_ble_eq_true rfl, Nat.le_of_ble_eq_true rfl⟩ (by decide) ⟨rfl, by decide, _, rfl, rfl⟩ rfl rfl (Nat.le_of_ble_eq_true rfl) g1 (go_aload_n (eD DX7_catches 3 rfl) rfl rfl (go_getR (t := 13) (eD DX7_catches 4 rfl) fX7_54 (by decide) rfl ⟨rfl, rfl⟩ (go_iload_n (eD DX7_catches 5 rfl) rfl rfl (go_callV (ci := 6) [(0, i)] (eD DX7_catches 6 rfl) ⟨eMem 3 104 rfl rfl, sX6_has⟩ ⟨Nat.le_of_ble_eq_true rfl, Nat.le_of_ble_eq_true rfl⟩ (by decide) ⟨rfl, by decide, _, rfl, rfl⟩ rfl rfl (Nat.le_of_ble_eq_true rfl) (y_b_X6_has w1 i (by omega) (by first | assumption | omega)) (?_)))))))
  by_cases h1 : 0 ≤ i ∧ i < (w1 13 3)
  · refine go_if_neT (tgt := 24) (eD DX7_catches 7 rfl) rfl (eI_pI _) (pI1 h1) ?_
    refine go_aload_n (eD DX7_catches 12 rfl) rfl rfl (go_getR (t := 16) (eD DX7_catches 13 rfl) fX7_63 (by decide) rfl ⟨rfl, rfl⟩ (go_callV (ci := 5) [] (eD DX7_catches 14 rfl) ⟨eMem 3 235 rfl rfl, sX5_countFalls⟩ ⟨Nat.le_of_ble_eq_true rfl, Nat.le_of_ble_eq_true rfl⟩ (by decide) ⟨rfl, by decide, _, rfl, rfl⟩ rfl rfl (Nat.le_of_ble_eq_true rfl) (g2 (by omega)) (go_aload_n (eD DX7_catches 15 rfl) rfl rfl (go_aload_n (eD DX7_catches 16 rfl) rfl rfl (go_getR (t := 16) (eD DX7_catches 17 rfl) fX7_63 (by decide) rfl ⟨rfl, rfl⟩ (go_iload_n (eD DX7_catches 18 rfl) rfl rfl (go_callV (ci := 5) [(0, i)] (eD DX7_catches 19 rfl) ⟨eMem 4 15 rfl rfl, sX5_caughtBy⟩ ⟨Nat.le_of_ble_eq_true rfl, Nat.le_of_ble_eq_true rfl⟩ (by decide) ⟨rfl, by decide, _, rfl, rfl⟩ rfl rfl (Nat.le_of_ble_eq_true rfl) (g3 (by omega)) (?_))))))))
    refine go_callV (ci := 7) [(0, vv)] (eD DX7_catches 20 rfl) ⟨eMem 2 216 rfl rfl, sX7_answer⟩ ⟨Nat.le_of_ble_eq_true rfl, Nat.le_of_ble_eq_true rfl⟩ (by decide) ⟨rfl, by decide, _, rfl, rfl⟩ rfl rfl (Nat.le_of_ble_eq_true rfl) (Cal.as (zX7_answer w2 vv  ) (r2 := some (0, vv)) (w2 := (eU w2 0 2 0)) (by (try simp only [rX7_answer, if_pos h1]) <;> (try rfl)) (by (try simp only [wX7_answer, if_pos h1]) <;> (try rfl))) (?_)
    rw [(k1 h1).1, (k1 h1).2]
    exact go_iret (eD DX7_catches 21 rfl) rfl
  · refine go_if_neF (tgt := 24) (eD DX7_catches 7 rfl) rfl (eI_pI _) (not_not_intro (pI0 h1)) ?_
    refine go_aload_n (eD DX7_catches 8 rfl) rfl rfl (go_iconst (eD DX7_catches 9 rfl) (?_))
    refine go_callV (ci := 7) [(0, 1)] (eD DX7_catches 10 rfl) ⟨eMem 2 54 rfl rfl, sX7_refuse⟩ ⟨Nat.le_of_ble_eq_true rfl, Nat.le_of_ble_eq_true rfl⟩ (by decide) ⟨rfl, by decide, _, rfl, rfl⟩ rfl rfl (Nat.le_of_ble_eq_true rfl) (Cal.as (zX7_refuse w1 1  ) (r2 := some (0, (-1))) (w2 := (eU w1 0 2 1)) (by (try simp only [rX7_refuse, if_neg h1]) <;> (try rfl)) (by (try simp only [wX7_refuse, if_neg h1]) <;> (try rfl))) (?_)
    rw [(k2 h1).1, (k2 h1).2]
    exact go_iret (eD DX7_catches 11 rfl) rfl
set_option maxHeartbeats 4000000 in
set_option maxRecDepth 20000 in
theorem tX7_faces_0 {r : Option eV} {w9 : eW} (w : eW) (set : Int) (hB : HB w) {w1 : eW} {vv : Int} (hi : eI set) (g1 : (0 < w 2 0 ∧ 0 < w 2 1) → Cal mX5_countFalls [eR 16] w none w1) (g2 : (0 < w 2 0 ∧ 0 < w 2 1) → 0 ≤ set ∧ set < 16 → Cal mX5_facing [eR 16, (0, set)] w1 (some (0, vv)) w1) (k1 : 0 < (w 2 0) ∧ 0 < (w 2 1) → set < 0 → r = some (0, (-1)) ∧ w9 = (eU w 0 2 2)) (k2 : 0 < (w 2 0) ∧ 0 < (w 2 1) → ¬ (set < 0) → set < 16 → r = some (0, vv) ∧ w9 = (eU w1 0 2 0)) (k3 : 0 < (w 2 0) ∧ 0 < (w 2 1) → ¬ (set < 0) → ¬ (set < 16) → r = some (0, (-1)) ∧ w9 = (eU w 0 2 2)) (k4 : ¬ (0 < (w 2 0) ∧ 0 < (w 2 1)) → r = some (0, (-1)) ∧ w9 = (eU w 0 2 1)) : Go mX7_faces 0 [(0, eR 0), (1, (0, set))] [] w r w9 := by
  obtain ⟨⟨b1, b2, b3, b4, b5, b6⟩, b7, b8, b9⟩ := id hB
  refine go_aload_n (eD DX7_faces 0 rfl) rfl rfl (go_getR (t := 2) (eD DX7_faces 1 rfl) fX7_29 (by decide) rfl ⟨rfl, rfl⟩ (go_callV (ci := 0) [] (eD DX7_faces 2 rfl) ⟨eMem 2 232 rfl rfl, sX0_stands⟩ ⟨Nat.le_of_ble_eq_true rfl, Nat.le_of_ble_eq_true rfl⟩ (by decide) ⟨rfl, by decide, _, rfl, rfl⟩ rfl rfl (Nat.le_of_ble_eq_true rfl) (y_b_X0_stands w  (by first | assumption | omega)) (?_)))
  by_cases h1 : 0 < (w 2 0) ∧ 0 < (w 2 1)
  · refine go_if_neT (tgt := 16) (eD DX7_faces 3 rfl) rfl (eI_pI _) (pI1 h1) ?_
    refine go_iload_n (eD DX7_faces 8 rfl) rfl rfl (?_)
    by_cases h2 : set < 0
    · refine go_if_ltT (tgt := 26) (eD DX7_faces 9 rfl) rfl (by omega) h2 ?_
      refine go_aload_n (eD DX7_faces 13 rfl) rfl rfl (go_iconst (eD DX7_faces 14 rfl) (?_))
      refine go_callV (ci := 7) [(0, 2)] (eD DX7_faces 15 rfl) ⟨eMem 2 54 rfl rfl, sX7_refuse⟩ ⟨Nat.le_of_ble_eq_true rfl, Nat.le_of_ble_eq_true rfl⟩ (by decide) ⟨rfl, by decide, _, rfl, rfl⟩ rfl rfl (Nat.le_of_ble_eq_true rfl) (Cal.as (zX7_refuse w 2  ) (r2 := some (0, (-1))) (w2 := (eU w 0 2 2)) (by (try simp only [rX7_refuse, if_pos h1, if_pos h2]) <;> (try rfl)) (by (try simp only [wX7_refuse, if_pos h1, if_pos h2]) <;> (try rfl))) (?_)
      rw [(k1 h1 h2).1, (k1 h1 h2).2]
      exact go_iret (eD DX7_faces 16 rfl) rfl
    · refine go_if_ltF (tgt := 26) (eD DX7_faces 9 rfl) rfl (by omega) h2 ?_
      refine go_iload_n (eD DX7_faces 10 rfl) rfl rfl (go_bipush (eD DX7_faces 11 rfl) (by decide) (?_))
      by_cases h3 : set < 16
      · refine go_icmp_ltT (tgt := 32) (eD DX7_faces 12 rfl) rfl (by omega) (by decide) h3 ?_
        refine go_aload_n (eD DX7_faces 17 rfl) rfl rfl (go_getR (t := 16) (eD DX7_faces 18 rfl) fX7_63 (by decide) rfl ⟨rfl, rfl⟩ (go_callV (ci := 5) [] (eD DX7_faces 19 rfl) ⟨eMem 3 235 rfl rfl, sX5_countFalls⟩ ⟨Nat.le_of_ble_eq_true rfl, Nat.le_of_ble_eq_true rfl⟩ (by decide) ⟨rfl, by decide, _, rfl, rfl⟩ rfl rfl (Nat.le_of_ble_eq_true rfl) (g1 (by omega)) (go_aload_n (eD DX7_faces 20 rfl) rfl rfl (go_aload_n (eD DX7_faces 21 rfl) rfl rfl (go_getR (t := 16) (eD DX7_faces 22 rfl) fX7_63 (by decide) rfl ⟨rfl, rfl⟩ (go_iload_n (eD DX7_faces 23 rfl) rfl rfl (go_callV (ci := 5) [(0, set)] (eD DX7_faces 24 rfl) ⟨eMem 4 23 rfl rfl, sX5_facing⟩ ⟨Nat.le_of_ble_eq_true rfl, Nat.le_of_ble_eq_true rfl⟩ (by decide) ⟨rfl, by decide, _, rfl, rfl⟩ rfl rfl (Nat.le_of_ble_eq_true rfl) (g2 (by omega) (by omega)) (?_))))))))
        refine go_callV (ci := 7) [(0, vv)] (eD DX7_faces 25 rfl) ⟨eMem 2 216 rfl rfl, sX7_answer⟩ ⟨Nat.le_of_ble_eq_true rfl, Nat.le_of_ble_eq_true rfl⟩ (by decide) ⟨rfl, by decide, _, rfl, rfl⟩ rfl rfl (Nat.le_of_ble_eq_true rfl) (Cal.as (zX7_answer w1 vv  ) (r2 := some (0, vv)) (w2 := (eU w1 0 2 0)) (by (try simp only [rX7_answer, if_pos h1, if_neg h2, if_pos h3]) <;> (try rfl)) (by (try simp only [wX7_answer, if_pos h1, if_neg h2, if_pos h3]) <;> (try rfl))) (?_)
        rw [(k2 h1 h2 h3).1, (k2 h1 h2 h3).2]
        exact go_iret (eD DX7_faces 26 rfl) rfl
      · refine go_icmp_ltF (tgt := 32) (eD DX7_faces 12 rfl) rfl (by omega) (by decide) h3 ?_
        refine go_aload_n (eD DX7_faces 13 rfl) rfl rfl (go_iconst (eD DX7_faces 14 rfl) (?_))
        refine go_callV (ci := 7) [(0, 2)] (eD DX7_faces 15 rfl) ⟨eMem 2 54 rfl rfl, sX7_refuse⟩ ⟨Nat.le_of_ble_eq_true rfl, Nat.le_of_ble_eq_true rfl⟩ (by decide) ⟨rfl, by decide, _, rfl, rfl⟩ rfl rfl (Nat.le_of_ble_eq_true rfl) (Cal.as (zX7_refuse w 2  ) (r2 := some (0, (-1))) (w2 := (eU w 0 2 2)) (by (try simp only [rX7_refuse, if_pos h1, if_neg h2, if_neg h3]) <;> (try rfl)) (by (try simp only [wX7_refuse, if_pos h1, if_neg h2, if_neg h3]) <;> (try rfl))) (?_)
        rw [(k3 h1 h2 h3).1, (k3 h1 h2 h3).2]
        exact go_iret (eD DX7_faces 16 rfl) rfl
  · refine go_if_neF (tgt := 16) (eD DX7_faces 3 rfl) rfl (eI_pI _) (not_not_intro (pI0 h1)) ?_
    refine go_aload_n (eD DX7_faces 4 rfl) rfl rfl (go_iconst (eD DX7_faces 5 rfl) (?_))
    refine go_callV (ci := 7) [(0, 1)] (eD DX7_faces 6 rfl) ⟨eMem 2 54 rfl rfl, sX7_refuse⟩ ⟨Nat.le_of_ble_eq_true rfl, Nat.le_of_ble_eq_true rfl⟩ (by decide) ⟨rfl, by decide, _, rfl, rfl⟩ rfl rfl (Nat.le_of_ble_eq_true rfl) (Cal.as (zX7_refuse w 1  ) (r2 := some (0, (-1))) (w2 := (eU w 0 2 1)) (by (try simp only [rX7_refuse, if_neg h1]) <;> (try rfl)) (by (try simp only [wX7_refuse, if_neg h1]) <;> (try rfl))) (?_)
    rw [(k4 h1).1, (k4 h1).2]
    exact go_iret (eD DX7_faces 7 rfl) rfl
set_option maxHeartbeats 4000000 in
set_option maxRecDepth 20000 in
theorem tX7_rim_0 {r : Option eV} {w9 : eW} (w : eW) (side : Int) (hB : HB w) {w1 : eW} {vv : Int} (hs : eI side) (g1 : Cal mX6_build [eR 13] w none w1) (g2 : 0 ≤ side ∧ side < 4 → Cal mX6_lengthOfSide [eR 13, (0, side)] w1 (some (0, vv)) w1) (k1 : 0 < (w 2 0) ∧ 0 < (w 2 1) → 0 ≤ side ∧ side < 4 → r = some (0, vv) ∧ w9 = (eU w1 0 2 0)) (k2 : 0 < (w 2 0) ∧ 0 < (w 2 1) → ¬ (0 ≤ side ∧ side < 4) → r = some (0, (-1)) ∧ w9 = (eU w 0 2 1)) (k3 : ¬ (0 < (w 2 0) ∧ 0 < (w 2 1)) → r = some (0, (-1)) ∧ w9 = (eU w 0 2 1)) : Go mX7_rim 0 [(0, eR 0), (1, (0, side))] [] w r w9 := by
  obtain ⟨⟨b1, b2, b3, b4, b5, b6⟩, b7, b8, b9⟩ := id hB
  refine go_aload_n (eD DX7_rim 0 rfl) rfl rfl (go_getR (t := 2) (eD DX7_rim 1 rfl) fX7_29 (by decide) rfl ⟨rfl, rfl⟩ (go_callV (ci := 0) [] (eD DX7_rim 2 rfl) ⟨eMem 2 232 rfl rfl, sX0_stands⟩ ⟨Nat.le_of_ble_eq_true rfl, Nat.le_of_ble_eq_true rfl⟩ (by decide) ⟨rfl, by decide, _, rfl, rfl⟩ rfl rfl (Nat.le_of_ble_eq_true rfl) (y_b_X0_stands w  (by first | assumption | omega)) (?_)))
  by_cases h1 : 0 < (w 2 0) ∧ 0 < (w 2 1)
  · refine go_if_eqF (tgt := 17) (eD DX7_rim 3 rfl) rfl (eI_pI _) (pI1 h1) ?_
    refine go_iload_n (eD DX7_rim 4 rfl) rfl rfl (go_callS [(0, side)] (eD DX7_rim 5 rfl) ⟨eMem 3 96 rfl rfl, sX7_isSide⟩ ⟨Nat.le_of_ble_eq_true rfl, Nat.le_of_ble_eq_true rfl⟩ rfl rfl (Nat.le_of_ble_eq_true rfl) (y_b_X7_isSide w side (by omega) ) (?_))
    by_cases h2 : 0 ≤ side ∧ side < 4
    · refine go_if_neT (tgt := 23) (eD DX7_rim 6 rfl) rfl (eI_pI _) (pI1 h2) ?_
      refine go_aload_n (eD DX7_rim 11 rfl) rfl rfl (go_getR (t := 13) (eD DX7_rim 12 rfl) fX7_54 (by decide) rfl ⟨rfl, rfl⟩ (go_callV (ci := 6) [] (eD DX7_rim 13 rfl) ⟨eMem 2 236 rfl rfl, sX6_build⟩ ⟨Nat.le_of_ble_eq_true rfl, Nat.le_of_ble_eq_true rfl⟩ (by decide) ⟨rfl, by decide, _, rfl, rfl⟩ rfl rfl (Nat.le_of_ble_eq_true rfl) g1 (go_aload_n (eD DX7_rim 14 rfl) rfl rfl (go_aload_n (eD DX7_rim 15 rfl) rfl rfl (go_getR (t := 13) (eD DX7_rim 16 rfl) fX7_54 (by decide) rfl ⟨rfl, rfl⟩ (go_iload_n (eD DX7_rim 17 rfl) rfl rfl (go_callV (ci := 6) [(0, side)] (eD DX7_rim 18 rfl) ⟨eMem 4 31 rfl rfl, sX6_lengthOfSide⟩ ⟨Nat.le_of_ble_eq_true rfl, Nat.le_of_ble_eq_true rfl⟩ (by decide) ⟨rfl, by decide, _, rfl, rfl⟩ rfl rfl (Nat.le_of_ble_eq_true rfl) (g2 (by omega)) (?_))))))))
      refine go_callV (ci := 7) [(0, vv)] (eD DX7_rim 19 rfl) ⟨eMem 2 216 rfl rfl, sX7_answer⟩ ⟨Nat.le_of_ble_eq_true rfl, Nat.le_of_ble_eq_true rfl⟩ (by decide) ⟨rfl, by decide, _, rfl, rfl⟩ rfl rfl (Nat.le_of_ble_eq_true rfl) (Cal.as (zX7_answer w1 vv  ) (r2 := some (0, vv)) (w2 := (eU w1 0 2 0)) (by (try simp only [rX7_answer, if_pos h1, if_pos h2]) <;> (try rfl)) (by (try simp only [wX7_answer, if_pos h1, if_pos h2]) <;> (try rfl))) (?_)
      rw [(k1 h1 h2).1, (k1 h1 h2).2]
      exact go_iret (eD DX7_rim 20 rfl) rfl
    · refine go_if_neF (tgt := 23) (eD DX7_rim 6 rfl) rfl (eI_pI _) (not_not_intro (pI0 h2)) ?_
      refine go_aload_n (eD DX7_rim 7 rfl) rfl rfl (go_iconst (eD DX7_rim 8 rfl) (?_))
      refine go_callV (ci := 7) [(0, 1)] (eD DX7_rim 9 rfl) ⟨eMem 2 54 rfl rfl, sX7_refuse⟩ ⟨Nat.le_of_ble_eq_true rfl, Nat.le_of_ble_eq_true rfl⟩ (by decide) ⟨rfl, by decide, _, rfl, rfl⟩ rfl rfl (Nat.le_of_ble_eq_true rfl) (Cal.as (zX7_refuse w 1  ) (r2 := some (0, (-1))) (w2 := (eU w 0 2 1)) (by (try simp only [rX7_refuse, if_pos h1, if_neg h2]) <;> (try rfl)) (by (try simp only [wX7_refuse, if_pos h1, if_neg h2]) <;> (try rfl))) (?_)
      rw [(k2 h1 h2).1, (k2 h1 h2).2]
      exact go_iret (eD DX7_rim 10 rfl) rfl
  · refine go_if_eqT (tgt := 17) (eD DX7_rim 3 rfl) rfl (eI_pI _) (pI0 h1) ?_
    refine go_aload_n (eD DX7_rim 7 rfl) rfl rfl (go_iconst (eD DX7_rim 8 rfl) (?_))
    refine go_callV (ci := 7) [(0, 1)] (eD DX7_rim 9 rfl) ⟨eMem 2 54 rfl rfl, sX7_refuse⟩ ⟨Nat.le_of_ble_eq_true rfl, Nat.le_of_ble_eq_true rfl⟩ (by decide) ⟨rfl, by decide, _, rfl, rfl⟩ rfl rfl (Nat.le_of_ble_eq_true rfl) (Cal.as (zX7_refuse w 1  ) (r2 := some (0, (-1))) (w2 := (eU w 0 2 1)) (by (try simp only [rX7_refuse, if_neg h1]) <;> (try rfl)) (by (try simp only [wX7_refuse, if_neg h1]) <;> (try rfl))) (?_)
    rw [(k3 h1).1, (k3 h1).2]
    exact go_iret (eD DX7_rim 10 rfl) rfl
set_option maxHeartbeats 4000000 in
set_option maxRecDepth 20000 in
theorem tX7_highest_0 {r : Option eV} {w9 : eW} (w : eW) (what : Int) (hB : HB w) {w1 : eW} {vv : Int} (hw : eI what) (g1 : (0 < w 2 0 ∧ 0 < w 2 1) → what = 0 ∨ what = 1 → Cal mX5_highestPlace [eR 16, (0, what)] w (some (0, vv)) w1) (k1 : 0 < (w 2 0) ∧ 0 < (w 2 1) → what = 0 ∨ what = 1 → r = some (0, vv) ∧ w9 = (eU w1 0 2 0)) (k2 : 0 < (w 2 0) ∧ 0 < (w 2 1) → ¬ (what = 0 ∨ what = 1) → r = some (0, (-1)) ∧ w9 = (eU w 0 2 1)) (k3 : ¬ (0 < (w 2 0) ∧ 0 < (w 2 1)) → r = some (0, (-1)) ∧ w9 = (eU w 0 2 1)) : Go mX7_highest 0 [(0, eR 0), (1, (0, what))] [] w r w9 := by
  obtain ⟨⟨b1, b2, b3, b4, b5, b6⟩, b7, b8, b9⟩ := id hB
  refine go_aload_n (eD DX7_highest 0 rfl) rfl rfl (go_getR (t := 2) (eD DX7_highest 1 rfl) fX7_29 (by decide) rfl ⟨rfl, rfl⟩ (go_callV (ci := 0) [] (eD DX7_highest 2 rfl) ⟨eMem 2 232 rfl rfl, sX0_stands⟩ ⟨Nat.le_of_ble_eq_true rfl, Nat.le_of_ble_eq_true rfl⟩ (by decide) ⟨rfl, by decide, _, rfl, rfl⟩ rfl rfl (Nat.le_of_ble_eq_true rfl) (y_b_X0_stands w  (by first | assumption | omega)) (?_)))
  by_cases h1 : 0 < (w 2 0) ∧ 0 < (w 2 1)
  · refine go_if_eqF (tgt := 17) (eD DX7_highest 3 rfl) rfl (eI_pI _) (pI1 h1) ?_
    refine go_iload_n (eD DX7_highest 4 rfl) rfl rfl (go_callS [(0, what)] (eD DX7_highest 5 rfl) ⟨eMem 3 128 rfl rfl, sX7_isPartOfTwo⟩ ⟨Nat.le_of_ble_eq_true rfl, Nat.le_of_ble_eq_true rfl⟩ rfl rfl (Nat.le_of_ble_eq_true rfl) (y_b_X7_isPartOfTwo w what (by omega) ) (?_))
    by_cases h2 : what = 0 ∨ what = 1
    · refine go_if_neT (tgt := 23) (eD DX7_highest 6 rfl) rfl (eI_pI _) (pI1 h2) ?_
      refine go_aload_n (eD DX7_highest 11 rfl) rfl rfl (go_aload_n (eD DX7_highest 12 rfl) rfl rfl (go_getR (t := 16) (eD DX7_highest 13 rfl) fX7_63 (by decide) rfl ⟨rfl, rfl⟩ (go_iload_n (eD DX7_highest 14 rfl) rfl rfl (go_callV (ci := 5) [(0, what)] (eD DX7_highest 15 rfl) ⟨eMem 4 40 rfl rfl, sX5_highestPlace⟩ ⟨Nat.le_of_ble_eq_true rfl, Nat.le_of_ble_eq_true rfl⟩ (by decide) ⟨rfl, by decide, _, rfl, rfl⟩ rfl rfl (Nat.le_of_ble_eq_true rfl) (g1 (by omega) (by omega)) (?_)))))
      refine go_callV (ci := 7) [(0, vv)] (eD DX7_highest 16 rfl) ⟨eMem 2 216 rfl rfl, sX7_answer⟩ ⟨Nat.le_of_ble_eq_true rfl, Nat.le_of_ble_eq_true rfl⟩ (by decide) ⟨rfl, by decide, _, rfl, rfl⟩ rfl rfl (Nat.le_of_ble_eq_true rfl) (Cal.as (zX7_answer w1 vv  ) (r2 := some (0, vv)) (w2 := (eU w1 0 2 0)) (by (try simp only [rX7_answer, if_pos h1, if_pos h2]) <;> (try rfl)) (by (try simp only [wX7_answer, if_pos h1, if_pos h2]) <;> (try rfl))) (?_)
      rw [(k1 h1 h2).1, (k1 h1 h2).2]
      exact go_iret (eD DX7_highest 17 rfl) rfl
    · refine go_if_neF (tgt := 23) (eD DX7_highest 6 rfl) rfl (eI_pI _) (not_not_intro (pI0 h2)) ?_
      refine go_aload_n (eD DX7_highest 7 rfl) rfl rfl (go_iconst (eD DX7_highest 8 rfl) (?_))
      refine go_callV (ci := 7) [(0, 1)] (eD DX7_highest 9 rfl) ⟨eMem 2 54 rfl rfl, sX7_refuse⟩ ⟨Nat.le_of_ble_eq_true rfl, Nat.le_of_ble_eq_true rfl⟩ (by decide) ⟨rfl, by decide, _, rfl, rfl⟩ rfl rfl (Nat.le_of_ble_eq_true rfl) (Cal.as (zX7_refuse w 1  ) (r2 := some (0, (-1))) (w2 := (eU w 0 2 1)) (by (try simp only [rX7_refuse, if_pos h1, if_neg h2]) <;> (try rfl)) (by (try simp only [wX7_refuse, if_pos h1, if_neg h2]) <;> (try rfl))) (?_)
      rw [(k2 h1 h2).1, (k2 h1 h2).2]
      exact go_iret (eD DX7_highest 10 rfl) rfl
  · refine go_if_eqT (tgt := 17) (eD DX7_highest 3 rfl) rfl (eI_pI _) (pI0 h1) ?_
    refine go_aload_n (eD DX7_highest 7 rfl) rfl rfl (go_iconst (eD DX7_highest 8 rfl) (?_))
    refine go_callV (ci := 7) [(0, 1)] (eD DX7_highest 9 rfl) ⟨eMem 2 54 rfl rfl, sX7_refuse⟩ ⟨Nat.le_of_ble_eq_true rfl, Nat.le_of_ble_eq_true rfl⟩ (by decide) ⟨rfl, by decide, _, rfl, rfl⟩ rfl rfl (Nat.le_of_ble_eq_true rfl) (Cal.as (zX7_refuse w 1  ) (r2 := some (0, (-1))) (w2 := (eU w 0 2 1)) (by (try simp only [rX7_refuse, if_neg h1]) <;> (try rfl)) (by (try simp only [wX7_refuse, if_neg h1]) <;> (try rfl))) (?_)
    rw [(k3 h1).1, (k3 h1).2]
    exact go_iret (eD DX7_highest 10 rfl) rfl
set_option maxHeartbeats 4000000 in
set_option maxRecDepth 20000 in
theorem tX7_points_0 {r : Option eV} {w9 : eW} (w : eW) (a b : Int) (hB : HB w) {tt : Int} (ht : eI tt) (g0 : Cal mX7_timeTrouble [eR 0, (0, a), (0, b)] w (some (0, tt)) w) {w1 : eW} {vv : Int} (g1 : tt = 0 → Cal mX5_countAbove [eR 16, (0, a), (0, b)] w (some (0, vv)) w1) (k1 : tt = 0 → r = some (0, vv) ∧ w9 = (eU w1 0 2 0)) (k2 : ¬ (tt = 0) → r = some (0, (-1)) ∧ w9 = (eU w 0 2 tt)) : Go mX7_points 0 [(0, eR 0), (1, (0, a)), (2, (0, b))] [] w r w9 := by
  obtain ⟨⟨b1, b2, b3, b4, b5, b6⟩, b7, b8, b9⟩ := id hB
  refine go_aload_n (eD DX7_points 0 rfl) rfl rfl (go_iload_n (eD DX7_points 1 rfl) rfl rfl (go_iload_n (eD DX7_points 2 rfl) rfl rfl (go_callV (ci := 7) [(0, a), (0, b)] (eD DX7_points 3 rfl) ⟨eMem 4 60 rfl rfl, sX7_timeTrouble⟩ ⟨Nat.le_of_ble_eq_true rfl, Nat.le_of_ble_eq_true rfl⟩ (by decide) ⟨rfl, by decide, _, rfl, rfl⟩ rfl rfl (Nat.le_of_ble_eq_true rfl) g0 (go_istore_n (eD DX7_points 4 rfl) rfl (by decide) (go_iload_n (eD DX7_points 5 rfl) rfl rfl (?_))))))
  by_cases h1 : tt = 0
  · refine go_if_eqT (tgt := 17) (eD DX7_points 6 rfl) rfl (by omega) h1 ?_
    refine go_aload_n (eD DX7_points 11 rfl) rfl rfl (go_aload_n (eD DX7_points 12 rfl) rfl rfl (go_getR (t := 16) (eD DX7_points 13 rfl) fX7_63 (by decide) rfl ⟨rfl, rfl⟩ (go_iload_n (eD DX7_points 14 rfl) rfl rfl (go_iload_n (eD DX7_points 15 rfl) rfl rfl (go_callV (ci := 5) [(0, a), (0, b)] (eD DX7_points 16 rfl) ⟨eMem 4 64 rfl rfl, sX5_countAbove⟩ ⟨Nat.le_of_ble_eq_true rfl, Nat.le_of_ble_eq_true rfl⟩ (by decide) ⟨rfl, by decide, _, rfl, rfl⟩ rfl rfl (Nat.le_of_ble_eq_true rfl) (g1 (by omega)) (?_))))))
    refine go_callV (ci := 7) [(0, vv)] (eD DX7_points 17 rfl) ⟨eMem 2 216 rfl rfl, sX7_answer⟩ ⟨Nat.le_of_ble_eq_true rfl, Nat.le_of_ble_eq_true rfl⟩ (by decide) ⟨rfl, by decide, _, rfl, rfl⟩ rfl rfl (Nat.le_of_ble_eq_true rfl) (Cal.as (zX7_answer w1 vv  ) (r2 := some (0, vv)) (w2 := (eU w1 0 2 0)) (by (try simp only [rX7_answer, if_pos h1]) <;> (try rfl)) (by (try simp only [wX7_answer, if_pos h1]) <;> (try rfl))) (?_)
    rw [(k1 h1).1, (k1 h1).2]
    exact go_iret (eD DX7_points 18 rfl) rfl
  · refine go_if_eqF (tgt := 17) (eD DX7_points 6 rfl) rfl (by omega) h1 ?_
    refine go_aload_n (eD DX7_points 7 rfl) rfl rfl (go_iload_n (eD DX7_points 8 rfl) rfl rfl (?_))
    refine go_callV (ci := 7) [(0, tt)] (eD DX7_points 9 rfl) ⟨eMem 2 54 rfl rfl, sX7_refuse⟩ ⟨Nat.le_of_ble_eq_true rfl, Nat.le_of_ble_eq_true rfl⟩ (by decide) ⟨rfl, by decide, _, rfl, rfl⟩ rfl rfl (Nat.le_of_ble_eq_true rfl) (Cal.as (zX7_refuse w tt  ) (r2 := some (0, (-1))) (w2 := (eU w 0 2 tt)) (by (try simp only [rX7_refuse, if_neg h1]) <;> (try rfl)) (by (try simp only [wX7_refuse, if_neg h1]) <;> (try rfl))) (?_)
    rw [(k2 h1).1, (k2 h1).2]
    exact go_iret (eD DX7_points 10 rfl) rfl
set_option maxHeartbeats 4000000 in
set_option maxRecDepth 20000 in
theorem tX7_pieces_0 {r : Option eV} {w9 : eW} (w : eW) (a b : Int) (hB : HB w) {tt : Int} (ht : eI tt) (g0 : Cal mX7_timeTrouble [eR 0, (0, a), (0, b)] w (some (0, tt)) w) {w1 : eW} {vv : Int} (g1 : tt = 0 → Cal mX4_countLeft [eR 24, (0, a), (0, b)] w (some (0, vv)) w1) (k1 : tt = 0 → r = some (0, vv) ∧ w9 = (eU w1 0 2 0)) (k2 : ¬ (tt = 0) → r = some (0, (-1)) ∧ w9 = (eU w 0 2 tt)) : Go mX7_pieces 0 [(0, eR 0), (1, (0, a)), (2, (0, b))] [] w r w9 := by
  obtain ⟨⟨b1, b2, b3, b4, b5, b6⟩, b7, b8, b9⟩ := id hB
  refine go_aload_n (eD DX7_pieces 0 rfl) rfl rfl (go_iload_n (eD DX7_pieces 1 rfl) rfl rfl (go_iload_n (eD DX7_pieces 2 rfl) rfl rfl (go_callV (ci := 7) [(0, a), (0, b)] (eD DX7_pieces 3 rfl) ⟨eMem 4 60 rfl rfl, sX7_timeTrouble⟩ ⟨Nat.le_of_ble_eq_true rfl, Nat.le_of_ble_eq_true rfl⟩ (by decide) ⟨rfl, by decide, _, rfl, rfl⟩ rfl rfl (Nat.le_of_ble_eq_true rfl) g0 (go_istore_n (eD DX7_pieces 4 rfl) rfl (by decide) (go_iload_n (eD DX7_pieces 5 rfl) rfl rfl (?_))))))
  by_cases h1 : tt = 0
  · refine go_if_eqT (tgt := 17) (eD DX7_pieces 6 rfl) rfl (by omega) h1 ?_
    refine go_aload_n (eD DX7_pieces 11 rfl) rfl rfl (go_aload_n (eD DX7_pieces 12 rfl) rfl rfl (go_getR (t := 24) (eD DX7_pieces 13 rfl) fX7_70 (by decide) rfl ⟨rfl, rfl⟩ (go_iload_n (eD DX7_pieces 14 rfl) rfl rfl (go_iload_n (eD DX7_pieces 15 rfl) rfl rfl (go_callV (ci := 4) [(0, a), (0, b)] (eD DX7_pieces 16 rfl) ⟨eMem 3 73 rfl rfl, sX4_countLeft⟩ ⟨Nat.le_of_ble_eq_true rfl, Nat.le_of_ble_eq_true rfl⟩ (by decide) ⟨rfl, by decide, _, rfl, rfl⟩ rfl rfl (Nat.le_of_ble_eq_true rfl) (g1 (by omega)) (?_))))))
    refine go_callV (ci := 7) [(0, vv)] (eD DX7_pieces 17 rfl) ⟨eMem 2 216 rfl rfl, sX7_answer⟩ ⟨Nat.le_of_ble_eq_true rfl, Nat.le_of_ble_eq_true rfl⟩ (by decide) ⟨rfl, by decide, _, rfl, rfl⟩ rfl rfl (Nat.le_of_ble_eq_true rfl) (Cal.as (zX7_answer w1 vv  ) (r2 := some (0, vv)) (w2 := (eU w1 0 2 0)) (by (try simp only [rX7_answer, if_pos h1]) <;> (try rfl)) (by (try simp only [wX7_answer, if_pos h1]) <;> (try rfl))) (?_)
    rw [(k1 h1).1, (k1 h1).2]
    exact go_iret (eD DX7_pieces 18 rfl) rfl
  · refine go_if_eqF (tgt := 17) (eD DX7_pieces 6 rfl) rfl (by omega) h1 ?_
    refine go_aload_n (eD DX7_pieces 7 rfl) rfl rfl (go_iload_n (eD DX7_pieces 8 rfl) rfl rfl (?_))
    refine go_callV (ci := 7) [(0, tt)] (eD DX7_pieces 9 rfl) ⟨eMem 2 54 rfl rfl, sX7_refuse⟩ ⟨Nat.le_of_ble_eq_true rfl, Nat.le_of_ble_eq_true rfl⟩ (by decide) ⟨rfl, by decide, _, rfl, rfl⟩ rfl rfl (Nat.le_of_ble_eq_true rfl) (Cal.as (zX7_refuse w tt  ) (r2 := some (0, (-1))) (w2 := (eU w 0 2 tt)) (by (try simp only [rX7_refuse, if_neg h1]) <;> (try rfl)) (by (try simp only [wX7_refuse, if_neg h1]) <;> (try rfl))) (?_)
    rw [(k2 h1).1, (k2 h1).2]
    exact go_iret (eD DX7_pieces 10 rfl) rfl
set_option maxHeartbeats 4000000 in
set_option maxRecDepth 20000 in
theorem tX7_area_0 {r : Option eV} {w9 : eW} (w : eW) (a b what : Int) (hB : HB w) {tt : Int} (ht : eI tt) (g0 : Cal mX7_timeTrouble [eR 0, (0, a), (0, b)] w (some (0, tt)) w) {w1 : eW} {ar : Int} (hw : eI what) (ha : eI a) (hb : eI b) (hj : eJ (b * b)) (hq : tt = 0 → 0 < b * b ∧ b * b < 4611686018427387904) (hr : 0 ≤ ar ∧ ar < 4611686018427387904) (g1 : tt = 0 → Cal mX4_areaLeft [eR 24, (1, a), (1, b)] w (some (1, ar)) w1) (k1 : what = 0 ∨ what = 1 → tt = 0 → r = some (1, rX2_part32 (eU (eU w1 32 0 (rdA ar (b * b))) 32 1 (rdB ar (b * b))) what) ∧ w9 = (eU (eU (eU w1 32 0 (rdA ar (b * b))) 32 1 (rdB ar (b * b))) 0 2 0)) (k2 : what = 0 ∨ what = 1 → ¬ (tt = 0) → r = some (1, (-1)) ∧ w9 = (eU w 0 2 tt)) (k3 : ¬ (what = 0 ∨ what = 1) → r = some (1, (-1)) ∧ w9 = (eU w 0 2 1)) : Go mX7_area 0 [(0, eR 0), (1, (0, a)), (2, (0, b)), (3, (0, what))] [] w r w9 := by
  obtain ⟨⟨b1, b2, b3, b4, b5, b6⟩, b7, b8, b9⟩ := id hB
  refine go_iload_n (eD DX7_area 0 rfl) rfl rfl (go_callS [(0, what)] (eD DX7_area 1 rfl) ⟨eMem 3 128 rfl rfl, sX7_isPartOfTwo⟩ ⟨Nat.le_of_ble_eq_true rfl, Nat.le_of_ble_eq_true rfl⟩ rfl rfl (Nat.le_of_ble_eq_true rfl) (y_b_X7_isPartOfTwo w what (by omega) ) (?_))
  by_cases h1 : what = 0 ∨ what = 1
  · refine go_if_neT (tgt := 14) (eD DX7_area 2 rfl) rfl (eI_pI _) (pI1 h1) ?_
    refine go_aload_n (eD DX7_area 8 rfl) rfl rfl (go_iload_n (eD DX7_area 9 rfl) rfl rfl (go_iload_n (eD DX7_area 10 rfl) rfl rfl (go_callV (ci := 7) [(0, a), (0, b)] (eD DX7_area 11 rfl) ⟨eMem 4 60 rfl rfl, sX7_timeTrouble⟩ ⟨Nat.le_of_ble_eq_true rfl, Nat.le_of_ble_eq_true rfl⟩ (by decide) ⟨rfl, by decide, _, rfl, rfl⟩ rfl rfl (Nat.le_of_ble_eq_true rfl) g0 (go_istore (eD DX7_area 12 rfl) (by decide) (go_iload (eD DX7_area 13 rfl) rfl (?_))))))
    by_cases h2 : tt = 0
    · refine go_if_eqT (tgt := 35) (eD DX7_area 14 rfl) rfl (by omega) h2 ?_
      refine go_aload_n (eD DX7_area 20 rfl) rfl rfl (go_getR (t := 32) (eD DX7_area 21 rfl) fX7_77 (by decide) rfl ⟨rfl, rfl⟩ (go_aload_n (eD DX7_area 22 rfl) rfl rfl (go_getR (t := 24) (eD DX7_area 23 rfl) fX7_70 (by decide) rfl ⟨rfl, rfl⟩ (go_iload_n (eD DX7_area 24 rfl) rfl rfl (go_i2l (eD DX7_area 25 rfl) (by omega) (go_iload_n (eD DX7_area 26 rfl) rfl rfl (go_i2l (eD DX7_area 27 rfl) (by omega) (go_callV (ci := 4) [(1, a), (1, b)] (eD DX7_area 28 rfl) ⟨eMem 4 77 rfl rfl, sX4_areaLeft⟩ ⟨Nat.le_of_ble_eq_true rfl, Nat.le_of_ble_eq_true rfl⟩ (by decide) ⟨rfl, by decide, _, rfl, rfl⟩ rfl rfl (Nat.le_of_ble_eq_true rfl) (g1 (by omega)) (go_iload_n (eD DX7_area 29 rfl) rfl rfl (go_i2l (eD DX7_area 30 rfl) (by omega) (go_iload_n (eD DX7_area 31 rfl) rfl rfl (go_i2l (eD DX7_area 32 rfl) (by omega) (go_lmul (eD DX7_area 33 rfl) (go_callV (ci := 2) [(1, ar), (1, b * b)] (eD DX7_area 34 rfl) ⟨eMem 3 192 rfl rfl, sX2_reduce⟩ ⟨Nat.le_of_ble_eq_true rfl, Nat.le_of_ble_eq_true rfl⟩ (by decide) ⟨rfl, by decide, _, rfl, rfl⟩ rfl rfl (Nat.le_of_ble_eq_true rfl) (y_X2_reduce32 w1 ar (b * b) (by omega) (by omega)) (go_aload_n (eD DX7_area 35 rfl) rfl rfl (go_aload_n (eD DX7_area 36 rfl) rfl rfl (go_getR (t := 32) (eD DX7_area 37 rfl) fX7_77 (by decide) rfl ⟨rfl, rfl⟩ (go_iload_n (eD DX7_area 38 rfl) rfl rfl (go_callV (ci := 2) [(0, what)] (eD DX7_area 39 rfl) ⟨eMem 3 193 rfl rfl, sX2_part⟩ ⟨Nat.le_of_ble_eq_true rfl, Nat.le_of_ble_eq_true rfl⟩ (by decide) ⟨rfl, by decide, _, rfl, rfl⟩ rfl rfl (Nat.le_of_ble_eq_true rfl) (zX2_part32 (eU (eU w1 32 0 (rdA ar (b * b))) 32 1 (rdB ar (b * b))) what (by omega)) (?_))))))))))))))))))))
      refine go_callV (ci := 7) [(1, rX2_part32 (eU (eU w1 32 0 (rdA ar (b * b))) 32 1 (rdB ar (b * b))) what)] (eD DX7_area 40 rfl) ⟨eMem 4 86 rfl rfl, sX7_answerLong⟩ ⟨Nat.le_of_ble_eq_true rfl, Nat.le_of_ble_eq_true rfl⟩ (by decide) ⟨rfl, by decide, _, rfl, rfl⟩ rfl rfl (Nat.le_of_ble_eq_true rfl) (Cal.as (zX7_answerLong (eU (eU w1 32 0 (rdA ar (b * b))) 32 1 (rdB ar (b * b))) (rX2_part32 (eU (eU w1 32 0 (rdA ar (b * b))) 32 1 (rdB ar (b * b))) what)  ) (r2 := some (1, rX2_part32 (eU (eU w1 32 0 (rdA ar (b * b))) 32 1 (rdB ar (b * b))) what)) (w2 := (eU (eU (eU w1 32 0 (rdA ar (b * b))) 32 1 (rdB ar (b * b))) 0 2 0)) (by (try simp only [rX7_answerLong, if_pos h1, if_pos h2]) <;> (try rfl)) (by (try simp only [wX7_answerLong, if_pos h1, if_pos h2]) <;> (try rfl))) (?_)
      rw [(k1 h1 h2).1, (k1 h1 h2).2]
      exact go_lret (eD DX7_area 41 rfl) rfl
    · refine go_if_eqF (tgt := 35) (eD DX7_area 14 rfl) rfl (by omega) h2 ?_
      refine go_aload_n (eD DX7_area 15 rfl) rfl rfl (go_iload (eD DX7_area 16 rfl) rfl (?_))
      refine go_callV (ci := 7) [(0, tt)] (eD DX7_area 17 rfl) ⟨eMem 2 54 rfl rfl, sX7_refuse⟩ ⟨Nat.le_of_ble_eq_true rfl, Nat.le_of_ble_eq_true rfl⟩ (by decide) ⟨rfl, by decide, _, rfl, rfl⟩ rfl rfl (Nat.le_of_ble_eq_true rfl) (Cal.as (zX7_refuse w tt  ) (r2 := some (0, (-1))) (w2 := (eU w 0 2 tt)) (by (try simp only [rX7_refuse, if_pos h1, if_neg h2]) <;> (try rfl)) (by (try simp only [wX7_refuse, if_pos h1, if_neg h2]) <;> (try rfl))) (?_)
      rw [(k2 h1 h2).1, (k2 h1 h2).2]
      exact go_i2l (eD DX7_area 18 rfl) (by decide) (go_lret (eD DX7_area 19 rfl) rfl)
  · refine go_if_neF (tgt := 14) (eD DX7_area 2 rfl) rfl (eI_pI _) (not_not_intro (pI0 h1)) ?_
    refine go_aload_n (eD DX7_area 3 rfl) rfl rfl (go_iconst (eD DX7_area 4 rfl) (?_))
    refine go_callV (ci := 7) [(0, 1)] (eD DX7_area 5 rfl) ⟨eMem 2 54 rfl rfl, sX7_refuse⟩ ⟨Nat.le_of_ble_eq_true rfl, Nat.le_of_ble_eq_true rfl⟩ (by decide) ⟨rfl, by decide, _, rfl, rfl⟩ rfl rfl (Nat.le_of_ble_eq_true rfl) (Cal.as (zX7_refuse w 1  ) (r2 := some (0, (-1))) (w2 := (eU w 0 2 1)) (by (try simp only [rX7_refuse, if_neg h1]) <;> (try rfl)) (by (try simp only [wX7_refuse, if_neg h1]) <;> (try rfl))) (?_)
    rw [(k3 h1).1, (k3 h1).2]
    exact go_i2l (eD DX7_area 6 rfl) (by decide) (go_lret (eD DX7_area 7 rfl) rfl)
set_option maxHeartbeats 4000000 in
set_option maxRecDepth 20000 in
theorem tX7_piece_0 {r : Option eV} {w9 : eW} (w : eW) (a b i what : Int) (hB : HB w) {tt : Int} (ht : eI tt) (g0 : Cal mX7_timeTrouble [eR 0, (0, a), (0, b)] w (some (0, tt)) w) {w1 : eW} {ar : Int} (hi : eI i) (hw : eI what) (ha : eI a) (hb : eI b) (hj : eJ (b * b)) (hq : tt = 0 → 0 < b * b ∧ b * b < 4611686018427387904) (hr : 0 ≤ ar ∧ ar < 4611686018427387904) (g1 : tt = 0 → 0 ≤ i → Cal mX4_areaOfPart [eR 24, (0, a), (0, b), (0, i)] w (some (1, ar)) w1) (k1 : i < 0 → r = some (1, (-1)) ∧ w9 = (eU w 0 2 1)) (k2 : ¬ (i < 0) → what = 0 ∨ what = 1 → tt = 0 → 0 < ar → r = some (1, rX2_part32 (eU (eU w1 32 0 (rdA ar (b * b))) 32 1 (rdB ar (b * b))) what) ∧ w9 = (eU (eU (eU w1 32 0 (rdA ar (b * b))) 32 1 (rdB ar (b * b))) 0 2 0)) (k3 : ¬ (i < 0) → what = 0 ∨ what = 1 → tt = 0 → ¬ (0 < ar) → r = some (1, (-1)) ∧ w9 = (eU w1 0 2 1)) (k4 : ¬ (i < 0) → what = 0 ∨ what = 1 → ¬ (tt = 0) → r = some (1, (-1)) ∧ w9 = (eU w 0 2 tt)) (k5 : ¬ (i < 0) → ¬ (what = 0 ∨ what = 1) → r = some (1, (-1)) ∧ w9 = (eU w 0 2 1)) : Go mX7_piece 0 [(0, eR 0), (1, (0, a)), (2, (0, b)), (3, (0, i)), (4, (0, what))] [] w r w9 := by
  obtain ⟨⟨b1, b2, b3, b4, b5, b6⟩, b7, b8, b9⟩ := id hB
  refine go_iload_n (eD DX7_piece 0 rfl) rfl rfl (?_)
  by_cases h1 : i < 0
  · refine go_if_ltT (tgt := 12) (eD DX7_piece 1 rfl) rfl (by omega) h1 ?_
    refine go_aload_n (eD DX7_piece 5 rfl) rfl rfl (go_iconst (eD DX7_piece 6 rfl) (?_))
    refine go_callV (ci := 7) [(0, 1)] (eD DX7_piece 7 rfl) ⟨eMem 2 54 rfl rfl, sX7_refuse⟩ ⟨Nat.le_of_ble_eq_true rfl, Nat.le_of_ble_eq_true rfl⟩ (by decide) ⟨rfl, by decide, _, rfl, rfl⟩ rfl rfl (Nat.le_of_ble_eq_true rfl) (Cal.as (zX7_refuse w 1  ) (r2 := some (0, (-1))) (w2 := (eU w 0 2 1)) (by (try simp only [rX7_refuse, if_pos h1]) <;> (try rfl)) (by (try simp only [wX7_refuse, if_pos h1]) <;> (try rfl))) (?_)
    rw [(k1 h1).1, (k1 h1).2]
    exact go_i2l (eD DX7_piece 8 rfl) (by decide) (go_lret (eD DX7_piece 9 rfl) rfl)
  · refine go_if_ltF (tgt := 12) (eD DX7_piece 1 rfl) rfl (by omega) h1 ?_
    refine go_iload (eD DX7_piece 2 rfl) rfl (go_callS [(0, what)] (eD DX7_piece 3 rfl) ⟨eMem 3 128 rfl rfl, sX7_isPartOfTwo⟩ ⟨Nat.le_of_ble_eq_true rfl, Nat.le_of_ble_eq_true rfl⟩ rfl rfl (Nat.le_of_ble_eq_true rfl) (y_b_X7_isPartOfTwo w what (by omega) ) (?_))
    by_cases h2 : what = 0 ∨ what = 1
    · refine go_if_neT (tgt := 19) (eD DX7_piece 4 rfl) rfl (eI_pI _) (pI1 h2) ?_
      refine go_aload_n (eD DX7_piece 10 rfl) rfl rfl (go_iload_n (eD DX7_piece 11 rfl) rfl rfl (go_iload_n (eD DX7_piece 12 rfl) rfl rfl (go_callV (ci := 7) [(0, a), (0, b)] (eD DX7_piece 13 rfl) ⟨eMem 4 60 rfl rfl, sX7_timeTrouble⟩ ⟨Nat.le_of_ble_eq_true rfl, Nat.le_of_ble_eq_true rfl⟩ (by decide) ⟨rfl, by decide, _, rfl, rfl⟩ rfl rfl (Nat.le_of_ble_eq_true rfl) g0 (go_istore (eD DX7_piece 14 rfl) (by decide) (go_iload (eD DX7_piece 15 rfl) rfl (?_))))))
      by_cases h3 : tt = 0
      · refine go_if_eqT (tgt := 40) (eD DX7_piece 16 rfl) rfl (by omega) h3 ?_
        refine go_aload_n (eD DX7_piece 22 rfl) rfl rfl (go_getR (t := 24) (eD DX7_piece 23 rfl) fX7_70 (by decide) rfl ⟨rfl, rfl⟩ (go_iload_n (eD DX7_piece 24 rfl) rfl rfl (go_iload_n (eD DX7_piece 25 rfl) rfl rfl (go_iload_n (eD DX7_piece 26 rfl) rfl rfl (go_callV (ci := 4) [(0, a), (0, b), (0, i)] (eD DX7_piece 27 rfl) ⟨eMem 4 94 rfl rfl, sX4_areaOfPart⟩ ⟨Nat.le_of_ble_eq_true rfl, Nat.le_of_ble_eq_true rfl⟩ (by decide) ⟨rfl, by decide, _, rfl, rfl⟩ rfl rfl (Nat.le_of_ble_eq_true rfl) (g1 (by omega) (by omega)) (go_lstore (eD DX7_piece 28 rfl) (by decide) (go_lload (eD DX7_piece 29 rfl) rfl (go_lconst (n := 0) (eD DX7_piece 30 rfl) rfl (?_)))))))))
        by_cases h4 : 0 < ar
        · refine go_lgtT (tgt := 66) (eD DX7_piece 31 rfl) (eD DX7_piece 32 rfl) rfl (by omega) (by decide) h4 ?_
          refine go_aload_n (eD DX7_piece 38 rfl) rfl rfl (go_getR (t := 32) (eD DX7_piece 39 rfl) fX7_77 (by decide) rfl ⟨rfl, rfl⟩ (go_lload (eD DX7_piece 40 rfl) rfl (go_iload_n (eD DX7_piece 41 rfl) rfl rfl (go_i2l (eD DX7_piece 42 rfl) (by omega) (go_iload_n (eD DX7_piece 43 rfl) rfl rfl (go_i2l (eD DX7_piece 44 rfl) (by omega) (go_lmul (eD DX7_piece 45 rfl) (go_callV (ci := 2) [(1, ar), (1, b * b)] (eD DX7_piece 46 rfl) ⟨eMem 3 192 rfl rfl, sX2_reduce⟩ ⟨Nat.le_of_ble_eq_true rfl, Nat.le_of_ble_eq_true rfl⟩ (by decide) ⟨rfl, by decide, _, rfl, rfl⟩ rfl rfl (Nat.le_of_ble_eq_true rfl) (y_X2_reduce32 w1 ar (b * b) (by omega) (by omega)) (go_aload_n (eD DX7_piece 47 rfl) rfl rfl (go_aload_n (eD DX7_piece 48 rfl) rfl rfl (go_getR (t := 32) (eD DX7_piece 49 rfl) fX7_77 (by decide) rfl ⟨rfl, rfl⟩ (go_iload (eD DX7_piece 50 rfl) rfl (go_callV (ci := 2) [(0, what)] (eD DX7_piece 51 rfl) ⟨eMem 3 193 rfl rfl, sX2_part⟩ ⟨Nat.le_of_ble_eq_true rfl, Nat.le_of_ble_eq_true rfl⟩ (by decide) ⟨rfl, by decide, _, rfl, rfl⟩ rfl rfl (Nat.le_of_ble_eq_true rfl) (zX2_part32 (eU (eU w1 32 0 (rdA ar (b * b))) 32 1 (rdB ar (b * b))) what (by omega)) (?_))))))))))))))
          refine go_callV (ci := 7) [(1, rX2_part32 (eU (eU w1 32 0 (rdA ar (b * b))) 32 1 (rdB ar (b * b))) what)] (eD DX7_piece 52 rfl) ⟨eMem 4 86 rfl rfl, sX7_answerLong⟩ ⟨Nat.le_of_ble_eq_true rfl, Nat.le_of_ble_eq_true rfl⟩ (by decide) ⟨rfl, by decide, _, rfl, rfl⟩ rfl rfl (Nat.le_of_ble_eq_true rfl) (Cal.as (zX7_answerLong (eU (eU w1 32 0 (rdA ar (b * b))) 32 1 (rdB ar (b * b))) (rX2_part32 (eU (eU w1 32 0 (rdA ar (b * b))) 32 1 (rdB ar (b * b))) what)  ) (r2 := some (1, rX2_part32 (eU (eU w1 32 0 (rdA ar (b * b))) 32 1 (rdB ar (b * b))) what)) (w2 := (eU (eU (eU w1 32 0 (rdA ar (b * b))) 32 1 (rdB ar (b * b))) 0 2 0)) (by (try simp only [rX7_answerLong, if_neg h1, if_pos h2, if_pos h3, if_pos h4]) <;> (try rfl)) (by (try simp only [wX7_answerLong, if_neg h1, if_pos h2, if_pos h3, if_pos h4]) <;> (try rfl))) (?_)
          rw [(k2 h1 h2 h3 h4).1, (k2 h1 h2 h3 h4).2]
          exact go_lret (eD DX7_piece 53 rfl) rfl
        · refine go_lgtF (tgt := 66) (eD DX7_piece 31 rfl) (eD DX7_piece 32 rfl) rfl (by omega) (by decide) h4 ?_
          refine go_aload_n (eD DX7_piece 33 rfl) rfl rfl (go_iconst (eD DX7_piece 34 rfl) (?_))
          refine go_callV (ci := 7) [(0, 1)] (eD DX7_piece 35 rfl) ⟨eMem 2 54 rfl rfl, sX7_refuse⟩ ⟨Nat.le_of_ble_eq_true rfl, Nat.le_of_ble_eq_true rfl⟩ (by decide) ⟨rfl, by decide, _, rfl, rfl⟩ rfl rfl (Nat.le_of_ble_eq_true rfl) (Cal.as (zX7_refuse w1 1  ) (r2 := some (0, (-1))) (w2 := (eU w1 0 2 1)) (by (try simp only [rX7_refuse, if_neg h1, if_pos h2, if_pos h3, if_neg h4]) <;> (try rfl)) (by (try simp only [wX7_refuse, if_neg h1, if_pos h2, if_pos h3, if_neg h4]) <;> (try rfl))) (?_)
          rw [(k3 h1 h2 h3 h4).1, (k3 h1 h2 h3 h4).2]
          exact go_i2l (eD DX7_piece 36 rfl) (by decide) (go_lret (eD DX7_piece 37 rfl) rfl)
      · refine go_if_eqF (tgt := 40) (eD DX7_piece 16 rfl) rfl (by omega) h3 ?_
        refine go_aload_n (eD DX7_piece 17 rfl) rfl rfl (go_iload (eD DX7_piece 18 rfl) rfl (?_))
        refine go_callV (ci := 7) [(0, tt)] (eD DX7_piece 19 rfl) ⟨eMem 2 54 rfl rfl, sX7_refuse⟩ ⟨Nat.le_of_ble_eq_true rfl, Nat.le_of_ble_eq_true rfl⟩ (by decide) ⟨rfl, by decide, _, rfl, rfl⟩ rfl rfl (Nat.le_of_ble_eq_true rfl) (Cal.as (zX7_refuse w tt  ) (r2 := some (0, (-1))) (w2 := (eU w 0 2 tt)) (by (try simp only [rX7_refuse, if_neg h1, if_pos h2, if_neg h3]) <;> (try rfl)) (by (try simp only [wX7_refuse, if_neg h1, if_pos h2, if_neg h3]) <;> (try rfl))) (?_)
        rw [(k4 h1 h2 h3).1, (k4 h1 h2 h3).2]
        exact go_i2l (eD DX7_piece 20 rfl) (by decide) (go_lret (eD DX7_piece 21 rfl) rfl)
    · refine go_if_neF (tgt := 19) (eD DX7_piece 4 rfl) rfl (eI_pI _) (not_not_intro (pI0 h2)) ?_
      refine go_aload_n (eD DX7_piece 5 rfl) rfl rfl (go_iconst (eD DX7_piece 6 rfl) (?_))
      refine go_callV (ci := 7) [(0, 1)] (eD DX7_piece 7 rfl) ⟨eMem 2 54 rfl rfl, sX7_refuse⟩ ⟨Nat.le_of_ble_eq_true rfl, Nat.le_of_ble_eq_true rfl⟩ (by decide) ⟨rfl, by decide, _, rfl, rfl⟩ rfl rfl (Nat.le_of_ble_eq_true rfl) (Cal.as (zX7_refuse w 1  ) (r2 := some (0, (-1))) (w2 := (eU w 0 2 1)) (by (try simp only [rX7_refuse, if_neg h1, if_neg h2]) <;> (try rfl)) (by (try simp only [wX7_refuse, if_neg h1, if_neg h2]) <;> (try rfl))) (?_)
      rw [(k5 h1 h2).1, (k5 h1 h2).2]
      exact go_i2l (eD DX7_piece 8 rfl) (by decide) (go_lret (eD DX7_piece 9 rfl) rfl)
set_option maxHeartbeats 4000000 in
set_option maxRecDepth 20000 in
theorem tX7_event_0 {r : Option eV} {w9 : eW} (w : eW) (i what : Int) (hB : HB w) {w1 : eW} {vv : Int} (hi : eI i) (hw : eI what) (g1 : (0 < w 2 0 ∧ 0 < w 2 1) → Cal mX4_findEvents [eR 24] w none w1) (g2 : (0 < w 2 0 ∧ 0 < w 2 1) → 0 ≤ i ∧ 0 ≤ what ∧ what < 5 → Cal mX4_toldOf [eR 24, (0, i), (0, what)] w1 (some (0, vv)) w1) (k1 : 0 < (w 2 0) ∧ 0 < (w 2 1) → i < 0 → r = some (0, (-1)) ∧ w9 = (eU w 0 2 1)) (k2 : 0 < (w 2 0) ∧ 0 < (w 2 1) → ¬ (i < 0) → what < 0 → r = some (0, (-1)) ∧ w9 = (eU w 0 2 1)) (k3 : 0 < (w 2 0) ∧ 0 < (w 2 1) → ¬ (i < 0) → ¬ (what < 0) → what < 5 → r = some (0, vv) ∧ w9 = (eU w1 0 2 0)) (k4 : 0 < (w 2 0) ∧ 0 < (w 2 1) → ¬ (i < 0) → ¬ (what < 0) → ¬ (what < 5) → r = some (0, (-1)) ∧ w9 = (eU w 0 2 1)) (k5 : ¬ (0 < (w 2 0) ∧ 0 < (w 2 1)) → r = some (0, (-1)) ∧ w9 = (eU w 0 2 1)) : Go mX7_event 0 [(0, eR 0), (1, (0, i)), (2, (0, what))] [] w r w9 := by
  obtain ⟨⟨b1, b2, b3, b4, b5, b6⟩, b7, b8, b9⟩ := id hB
  refine go_aload_n (eD DX7_event 0 rfl) rfl rfl (go_getR (t := 2) (eD DX7_event 1 rfl) fX7_29 (by decide) rfl ⟨rfl, rfl⟩ (go_callV (ci := 0) [] (eD DX7_event 2 rfl) ⟨eMem 2 232 rfl rfl, sX0_stands⟩ ⟨Nat.le_of_ble_eq_true rfl, Nat.le_of_ble_eq_true rfl⟩ (by decide) ⟨rfl, by decide, _, rfl, rfl⟩ rfl rfl (Nat.le_of_ble_eq_true rfl) (y_b_X0_stands w  (by first | assumption | omega)) (?_)))
  by_cases h1 : 0 < (w 2 0) ∧ 0 < (w 2 1)
  · refine go_if_eqF (tgt := 23) (eD DX7_event 3 rfl) rfl (eI_pI _) (pI1 h1) ?_
    refine go_iload_n (eD DX7_event 4 rfl) rfl rfl (?_)
    by_cases h2 : i < 0
    · refine go_if_ltT (tgt := 23) (eD DX7_event 5 rfl) rfl (by omega) h2 ?_
      refine go_aload_n (eD DX7_event 11 rfl) rfl rfl (go_iconst (eD DX7_event 12 rfl) (?_))
      refine go_callV (ci := 7) [(0, 1)] (eD DX7_event 13 rfl) ⟨eMem 2 54 rfl rfl, sX7_refuse⟩ ⟨Nat.le_of_ble_eq_true rfl, Nat.le_of_ble_eq_true rfl⟩ (by decide) ⟨rfl, by decide, _, rfl, rfl⟩ rfl rfl (Nat.le_of_ble_eq_true rfl) (Cal.as (zX7_refuse w 1  ) (r2 := some (0, (-1))) (w2 := (eU w 0 2 1)) (by (try simp only [rX7_refuse, if_pos h1, if_pos h2]) <;> (try rfl)) (by (try simp only [wX7_refuse, if_pos h1, if_pos h2]) <;> (try rfl))) (?_)
      rw [(k1 h1 h2).1, (k1 h1 h2).2]
      exact go_iret (eD DX7_event 14 rfl) rfl
    · refine go_if_ltF (tgt := 23) (eD DX7_event 5 rfl) rfl (by omega) h2 ?_
      refine go_iload_n (eD DX7_event 6 rfl) rfl rfl (?_)
      by_cases h3 : what < 0
      · refine go_if_ltT (tgt := 23) (eD DX7_event 7 rfl) rfl (by omega) h3 ?_
        refine go_aload_n (eD DX7_event 11 rfl) rfl rfl (go_iconst (eD DX7_event 12 rfl) (?_))
        refine go_callV (ci := 7) [(0, 1)] (eD DX7_event 13 rfl) ⟨eMem 2 54 rfl rfl, sX7_refuse⟩ ⟨Nat.le_of_ble_eq_true rfl, Nat.le_of_ble_eq_true rfl⟩ (by decide) ⟨rfl, by decide, _, rfl, rfl⟩ rfl rfl (Nat.le_of_ble_eq_true rfl) (Cal.as (zX7_refuse w 1  ) (r2 := some (0, (-1))) (w2 := (eU w 0 2 1)) (by (try simp only [rX7_refuse, if_pos h1, if_neg h2, if_pos h3]) <;> (try rfl)) (by (try simp only [wX7_refuse, if_pos h1, if_neg h2, if_pos h3]) <;> (try rfl))) (?_)
        rw [(k2 h1 h2 h3).1, (k2 h1 h2 h3).2]
        exact go_iret (eD DX7_event 14 rfl) rfl
      · refine go_if_ltF (tgt := 23) (eD DX7_event 7 rfl) rfl (by omega) h3 ?_
        refine go_iload_n (eD DX7_event 8 rfl) rfl rfl (go_iconst (eD DX7_event 9 rfl) (?_))
        by_cases h4 : what < 5
        · refine go_icmp_ltT (tgt := 29) (eD DX7_event 10 rfl) rfl (by omega) (by decide) h4 ?_
          refine go_aload_n (eD DX7_event 15 rfl) rfl rfl (go_getR (t := 24) (eD DX7_event 16 rfl) fX7_70 (by decide) rfl ⟨rfl, rfl⟩ (go_callV (ci := 4) [] (eD DX7_event 17 rfl) ⟨eMem 3 27 rfl rfl, sX4_findEvents⟩ ⟨Nat.le_of_ble_eq_true rfl, Nat.le_of_ble_eq_true rfl⟩ (by decide) ⟨rfl, by decide, _, rfl, rfl⟩ rfl rfl (Nat.le_of_ble_eq_true rfl) (g1 (by omega)) (go_aload_n (eD DX7_event 18 rfl) rfl rfl (go_aload_n (eD DX7_event 19 rfl) rfl rfl (go_getR (t := 24) (eD DX7_event 20 rfl) fX7_70 (by decide) rfl ⟨rfl, rfl⟩ (go_iload_n (eD DX7_event 21 rfl) rfl rfl (go_iload_n (eD DX7_event 22 rfl) rfl rfl (go_callV (ci := 4) [(0, i), (0, what)] (eD DX7_event 23 rfl) ⟨eMem 4 102 rfl rfl, sX4_toldOf⟩ ⟨Nat.le_of_ble_eq_true rfl, Nat.le_of_ble_eq_true rfl⟩ (by decide) ⟨rfl, by decide, _, rfl, rfl⟩ rfl rfl (Nat.le_of_ble_eq_true rfl) (g2 (by omega) (by omega)) (?_)))))))))
          refine go_callV (ci := 7) [(0, vv)] (eD DX7_event 24 rfl) ⟨eMem 2 216 rfl rfl, sX7_answer⟩ ⟨Nat.le_of_ble_eq_true rfl, Nat.le_of_ble_eq_true rfl⟩ (by decide) ⟨rfl, by decide, _, rfl, rfl⟩ rfl rfl (Nat.le_of_ble_eq_true rfl) (Cal.as (zX7_answer w1 vv  ) (r2 := some (0, vv)) (w2 := (eU w1 0 2 0)) (by (try simp only [rX7_answer, if_pos h1, if_neg h2, if_neg h3, if_pos h4]) <;> (try rfl)) (by (try simp only [wX7_answer, if_pos h1, if_neg h2, if_neg h3, if_pos h4]) <;> (try rfl))) (?_)
          rw [(k3 h1 h2 h3 h4).1, (k3 h1 h2 h3 h4).2]
          exact go_iret (eD DX7_event 25 rfl) rfl
        · refine go_icmp_ltF (tgt := 29) (eD DX7_event 10 rfl) rfl (by omega) (by decide) h4 ?_
          refine go_aload_n (eD DX7_event 11 rfl) rfl rfl (go_iconst (eD DX7_event 12 rfl) (?_))
          refine go_callV (ci := 7) [(0, 1)] (eD DX7_event 13 rfl) ⟨eMem 2 54 rfl rfl, sX7_refuse⟩ ⟨Nat.le_of_ble_eq_true rfl, Nat.le_of_ble_eq_true rfl⟩ (by decide) ⟨rfl, by decide, _, rfl, rfl⟩ rfl rfl (Nat.le_of_ble_eq_true rfl) (Cal.as (zX7_refuse w 1  ) (r2 := some (0, (-1))) (w2 := (eU w 0 2 1)) (by (try simp only [rX7_refuse, if_pos h1, if_neg h2, if_neg h3, if_neg h4]) <;> (try rfl)) (by (try simp only [wX7_refuse, if_pos h1, if_neg h2, if_neg h3, if_neg h4]) <;> (try rfl))) (?_)
          rw [(k4 h1 h2 h3 h4).1, (k4 h1 h2 h3 h4).2]
          exact go_iret (eD DX7_event 14 rfl) rfl
  · refine go_if_eqT (tgt := 23) (eD DX7_event 3 rfl) rfl (eI_pI _) (pI0 h1) ?_
    refine go_aload_n (eD DX7_event 11 rfl) rfl rfl (go_iconst (eD DX7_event 12 rfl) (?_))
    refine go_callV (ci := 7) [(0, 1)] (eD DX7_event 13 rfl) ⟨eMem 2 54 rfl rfl, sX7_refuse⟩ ⟨Nat.le_of_ble_eq_true rfl, Nat.le_of_ble_eq_true rfl⟩ (by decide) ⟨rfl, by decide, _, rfl, rfl⟩ rfl rfl (Nat.le_of_ble_eq_true rfl) (Cal.as (zX7_refuse w 1  ) (r2 := some (0, (-1))) (w2 := (eU w 0 2 1)) (by (try simp only [rX7_refuse, if_neg h1]) <;> (try rfl)) (by (try simp only [wX7_refuse, if_neg h1]) <;> (try rfl))) (?_)
    rw [(k5 h1).1, (k5 h1).2]
    exact go_iret (eD DX7_event 14 rfl) rfl
set_option maxHeartbeats 4000000 in
set_option maxRecDepth 20000 in
theorem tX7_top_0 {r : Option eV} {w9 : eW} (w : eW) (what : Int) (hB : HB w) {w1 : eW} {vv : Int} (hw : eI what) (g1 : (0 < w 2 0 ∧ 0 < w 2 1) → Cal mX4_findEvents [eR 24] w none w1) (g2 : (0 < w 2 0 ∧ 0 < w 2 1) → what = 0 ∨ what = 1 → Cal mX4_toldOf [eR 24, (0, w1 24 8 - 1), (0, what)] w1 (some (0, vv)) w1) (k1 : 0 < (w 2 0) ∧ 0 < (w 2 1) → what = 0 ∨ what = 1 → r = some (0, vv) ∧ w9 = (eU w1 0 2 0)) (k2 : 0 < (w 2 0) ∧ 0 < (w 2 1) → ¬ (what = 0 ∨ what = 1) → r = some (0, (-1)) ∧ w9 = (eU w 0 2 1)) (k3 : ¬ (0 < (w 2 0) ∧ 0 < (w 2 1)) → r = some (0, (-1)) ∧ w9 = (eU w 0 2 1)) : Go mX7_top 0 [(0, eR 0), (1, (0, what))] [] w r w9 := by
  obtain ⟨⟨b1, b2, b3, b4, b5, b6⟩, b7, b8, b9⟩ := id hB
  refine go_aload_n (eD DX7_top 0 rfl) rfl rfl (go_getR (t := 2) (eD DX7_top 1 rfl) fX7_29 (by decide) rfl ⟨rfl, rfl⟩ (go_callV (ci := 0) [] (eD DX7_top 2 rfl) ⟨eMem 2 232 rfl rfl, sX0_stands⟩ ⟨Nat.le_of_ble_eq_true rfl, Nat.le_of_ble_eq_true rfl⟩ (by decide) ⟨rfl, by decide, _, rfl, rfl⟩ rfl rfl (Nat.le_of_ble_eq_true rfl) (y_b_X0_stands w  (by first | assumption | omega)) (?_)))
  by_cases h1 : 0 < (w 2 0) ∧ 0 < (w 2 1)
  · refine go_if_eqF (tgt := 17) (eD DX7_top 3 rfl) rfl (eI_pI _) (pI1 h1) ?_
    refine go_iload_n (eD DX7_top 4 rfl) rfl rfl (go_callS [(0, what)] (eD DX7_top 5 rfl) ⟨eMem 3 128 rfl rfl, sX7_isPartOfTwo⟩ ⟨Nat.le_of_ble_eq_true rfl, Nat.le_of_ble_eq_true rfl⟩ rfl rfl (Nat.le_of_ble_eq_true rfl) (y_b_X7_isPartOfTwo w what (by omega) ) (?_))
    by_cases h2 : what = 0 ∨ what = 1
    · refine go_if_neT (tgt := 23) (eD DX7_top 6 rfl) rfl (eI_pI _) (pI1 h2) ?_
      refine go_aload_n (eD DX7_top 11 rfl) rfl rfl (go_getR (t := 24) (eD DX7_top 12 rfl) fX7_70 (by decide) rfl ⟨rfl, rfl⟩ (go_callV (ci := 4) [] (eD DX7_top 13 rfl) ⟨eMem 3 27 rfl rfl, sX4_findEvents⟩ ⟨Nat.le_of_ble_eq_true rfl, Nat.le_of_ble_eq_true rfl⟩ (by decide) ⟨rfl, by decide, _, rfl, rfl⟩ rfl rfl (Nat.le_of_ble_eq_true rfl) (g1 (by omega)) (go_aload_n (eD DX7_top 14 rfl) rfl rfl (go_aload_n (eD DX7_top 15 rfl) rfl rfl (go_getR (t := 24) (eD DX7_top 16 rfl) fX7_70 (by decide) rfl ⟨rfl, rfl⟩ (go_aload_n (eD DX7_top 17 rfl) rfl rfl (go_getR (t := 24) (eD DX7_top 18 rfl) fX7_70 (by decide) rfl ⟨rfl, rfl⟩ (go_getI (kz := 8) (eD DX7_top 19 rfl) fX7_134 (by decide) rfl rfl rfl (go_iconst (eD DX7_top 20 rfl) (go_isub (eD DX7_top 21 rfl) (go_iload_n (eD DX7_top 22 rfl) rfl rfl (go_callV (ci := 4) [(0, (w1 24 8) - 1), (0, what)] (eD DX7_top 23 rfl) ⟨eMem 4 102 rfl rfl, sX4_toldOf⟩ ⟨Nat.le_of_ble_eq_true rfl, Nat.le_of_ble_eq_true rfl⟩ (by decide) ⟨rfl, by decide, _, rfl, rfl⟩ rfl rfl (Nat.le_of_ble_eq_true rfl) (g2 (by omega) (by omega)) (?_)))))))))))))
      refine go_callV (ci := 7) [(0, vv)] (eD DX7_top 24 rfl) ⟨eMem 2 216 rfl rfl, sX7_answer⟩ ⟨Nat.le_of_ble_eq_true rfl, Nat.le_of_ble_eq_true rfl⟩ (by decide) ⟨rfl, by decide, _, rfl, rfl⟩ rfl rfl (Nat.le_of_ble_eq_true rfl) (Cal.as (zX7_answer w1 vv  ) (r2 := some (0, vv)) (w2 := (eU w1 0 2 0)) (by (try simp only [rX7_answer, if_pos h1, if_pos h2]) <;> (try rfl)) (by (try simp only [wX7_answer, if_pos h1, if_pos h2]) <;> (try rfl))) (?_)
      rw [(k1 h1 h2).1, (k1 h1 h2).2]
      exact go_iret (eD DX7_top 25 rfl) rfl
    · refine go_if_neF (tgt := 23) (eD DX7_top 6 rfl) rfl (eI_pI _) (not_not_intro (pI0 h2)) ?_
      refine go_aload_n (eD DX7_top 7 rfl) rfl rfl (go_iconst (eD DX7_top 8 rfl) (?_))
      refine go_callV (ci := 7) [(0, 1)] (eD DX7_top 9 rfl) ⟨eMem 2 54 rfl rfl, sX7_refuse⟩ ⟨Nat.le_of_ble_eq_true rfl, Nat.le_of_ble_eq_true rfl⟩ (by decide) ⟨rfl, by decide, _, rfl, rfl⟩ rfl rfl (Nat.le_of_ble_eq_true rfl) (Cal.as (zX7_refuse w 1  ) (r2 := some (0, (-1))) (w2 := (eU w 0 2 1)) (by (try simp only [rX7_refuse, if_pos h1, if_neg h2]) <;> (try rfl)) (by (try simp only [wX7_refuse, if_pos h1, if_neg h2]) <;> (try rfl))) (?_)
      rw [(k2 h1 h2).1, (k2 h1 h2).2]
      exact go_iret (eD DX7_top 10 rfl) rfl
  · refine go_if_eqT (tgt := 17) (eD DX7_top 3 rfl) rfl (eI_pI _) (pI0 h1) ?_
    refine go_aload_n (eD DX7_top 7 rfl) rfl rfl (go_iconst (eD DX7_top 8 rfl) (?_))
    refine go_callV (ci := 7) [(0, 1)] (eD DX7_top 9 rfl) ⟨eMem 2 54 rfl rfl, sX7_refuse⟩ ⟨Nat.le_of_ble_eq_true rfl, Nat.le_of_ble_eq_true rfl⟩ (by decide) ⟨rfl, by decide, _, rfl, rfl⟩ rfl rfl (Nat.le_of_ble_eq_true rfl) (Cal.as (zX7_refuse w 1  ) (r2 := some (0, (-1))) (w2 := (eU w 0 2 1)) (by (try simp only [rX7_refuse, if_neg h1]) <;> (try rfl)) (by (try simp only [wX7_refuse, if_neg h1]) <;> (try rfl))) (?_)
    rw [(k3 h1).1, (k3 h1).2]
    exact go_iret (eD DX7_top 10 rfl) rfl
set_option maxHeartbeats 4000000 in
set_option maxRecDepth 20000 in
theorem tX7_higher_0 {r : Option eV} {w9 : eW} (w : eW) (i j : Int) (hB : HB w) {w1 w2 : eW} {hi1 hi2 : Int} (hi : eI i) (hj : eI j) (e1 : eI hi1) (e2 : eI hi2) (g1 : 0 ≤ i ∧ i < w 2 2 ∧ 0 ≤ j ∧ j < w 2 2 → Cal mX7_heightOfMark [eR 0, (0, i)] w (some (0, hi1)) w1) (g2 : 0 ≤ i ∧ i < w 2 2 ∧ 0 ≤ j ∧ j < w 2 2 → Cal mX7_heightOfMark [eR 0, (0, j)] w1 (some (0, hi2)) w2) (k1 : 0 ≤ i ∧ i < (w 2 2) → 0 ≤ j ∧ j < (w 2 2) → hi1 = hi2 → r = some (0, 0) ∧ w9 = (eU w2 0 2 0)) (k2 : 0 ≤ i ∧ i < (w 2 2) → 0 ≤ j ∧ j < (w 2 2) → ¬ (hi1 = hi2) → hi2 < hi1 → r = some (0, 1) ∧ w9 = (eU w2 0 2 0)) (k3 : 0 ≤ i ∧ i < (w 2 2) → 0 ≤ j ∧ j < (w 2 2) → ¬ (hi1 = hi2) → ¬ (hi2 < hi1) → r = some (0, (-2)) ∧ w9 = (eU w2 0 2 0)) (k4 : 0 ≤ i ∧ i < (w 2 2) → ¬ (0 ≤ j ∧ j < (w 2 2)) → r = some (0, (-1)) ∧ w9 = (eU w 0 2 1)) (k5 : ¬ (0 ≤ i ∧ i < (w 2 2)) → r = some (0, (-1)) ∧ w9 = (eU w 0 2 1)) : Go mX7_higher 0 [(0, eR 0), (1, (0, i)), (2, (0, j))] [] w r w9 := by
  obtain ⟨⟨b1, b2, b3, b4, b5, b6⟩, b7, b8, b9⟩ := id hB
  refine go_aload_n (eD DX7_higher 0 rfl) rfl rfl (go_getR (t := 2) (eD DX7_higher 1 rfl) fX7_29 (by decide) rfl ⟨rfl, rfl⟩ (go_iload_n (eD DX7_higher 2 rfl) rfl rfl (go_callV (ci := 0) [(0, i)] (eD DX7_higher 3 rfl) ⟨eMem 3 124 rfl rfl, sX0_hasMark⟩ ⟨Nat.le_of_ble_eq_true rfl, Nat.le_of_ble_eq_true rfl⟩ (by decide) ⟨rfl, by decide, _, rfl, rfl⟩ rfl rfl (Nat.le_of_ble_eq_true rfl) (y_b_X0_hasMark w i (by omega) (by first | assumption | omega)) (?_))))
  by_cases h1 : 0 ≤ i ∧ i < (w 2 2)
  · refine go_if_eqF (tgt := 22) (eD DX7_higher 4 rfl) rfl (eI_pI _) (pI1 h1) ?_
    refine go_aload_n (eD DX7_higher 5 rfl) rfl rfl (go_getR (t := 2) (eD DX7_higher 6 rfl) fX7_29 (by decide) rfl ⟨rfl, rfl⟩ (go_iload_n (eD DX7_higher 7 rfl) rfl rfl (go_callV (ci := 0) [(0, j)] (eD DX7_higher 8 rfl) ⟨eMem 3 124 rfl rfl, sX0_hasMark⟩ ⟨Nat.le_of_ble_eq_true rfl, Nat.le_of_ble_eq_true rfl⟩ (by decide) ⟨rfl, by decide, _, rfl, rfl⟩ rfl rfl (Nat.le_of_ble_eq_true rfl) (y_b_X0_hasMark w j (by omega) (by first | assumption | omega)) (?_))))
    by_cases h2 : 0 ≤ j ∧ j < (w 2 2)
    · refine go_if_neT (tgt := 28) (eD DX7_higher 9 rfl) rfl (eI_pI _) (pI1 h2) ?_
      refine go_aload_n (eD DX7_higher 14 rfl) rfl rfl (go_iload_n (eD DX7_higher 15 rfl) rfl rfl (go_callV (ci := 7) [(0, i)] (eD DX7_higher 16 rfl) ⟨eMem 4 52 rfl rfl, sX7_heightOfMark⟩ ⟨Nat.le_of_ble_eq_true rfl, Nat.le_of_ble_eq_true rfl⟩ (by decide) ⟨rfl, by decide, _, rfl, rfl⟩ rfl rfl (Nat.le_of_ble_eq_true rfl) (g1 (by omega)) (go_istore_n (eD DX7_higher 17 rfl) rfl (by decide) (go_aload_n (eD DX7_higher 18 rfl) rfl rfl (go_iload_n (eD DX7_higher 19 rfl) rfl rfl (go_callV (ci := 7) [(0, j)] (eD DX7_higher 20 rfl) ⟨eMem 4 52 rfl rfl, sX7_heightOfMark⟩ ⟨Nat.le_of_ble_eq_true rfl, Nat.le_of_ble_eq_true rfl⟩ (by decide) ⟨rfl, by decide, _, rfl, rfl⟩ rfl rfl (Nat.le_of_ble_eq_true rfl) (g2 (by omega)) (go_istore (eD DX7_higher 21 rfl) (by decide) (go_iload_n (eD DX7_higher 22 rfl) rfl rfl (go_iload (eD DX7_higher 23 rfl) rfl (?_))))))))))
      by_cases h3 : hi1 = hi2
      · refine go_icmp_neF (tgt := 53) (eD DX7_higher 24 rfl) rfl (by omega) (by omega) (not_not_intro h3) ?_
        refine go_aload_n (eD DX7_higher 25 rfl) rfl rfl (go_iconst (eD DX7_higher 26 rfl) (?_))
        refine go_callV (ci := 7) [(0, 0)] (eD DX7_higher 27 rfl) ⟨eMem 2 216 rfl rfl, sX7_answer⟩ ⟨Nat.le_of_ble_eq_true rfl, Nat.le_of_ble_eq_true rfl⟩ (by decide) ⟨rfl, by decide, _, rfl, rfl⟩ rfl rfl (Nat.le_of_ble_eq_true rfl) (Cal.as (zX7_answer w2 0  ) (r2 := some (0, 0)) (w2 := (eU w2 0 2 0)) (by (try simp only [rX7_answer, if_pos h1, if_pos h2, if_pos h3]) <;> (try rfl)) (by (try simp only [wX7_answer, if_pos h1, if_pos h2, if_pos h3]) <;> (try rfl))) (?_)
        rw [(k1 h1 h2 h3).1, (k1 h1 h2 h3).2]
        exact go_iret (eD DX7_higher 28 rfl) rfl
      · refine go_icmp_neT (tgt := 53) (eD DX7_higher 24 rfl) rfl (by omega) (by omega) h3 ?_
        refine go_aload_n (eD DX7_higher 29 rfl) rfl rfl (go_iload_n (eD DX7_higher 30 rfl) rfl rfl (go_iload (eD DX7_higher 31 rfl) rfl (?_)))
        by_cases h4 : hi2 < hi1
        · refine go_icmp_leF (tgt := 64) (eD DX7_higher 32 rfl) rfl (by omega) (by omega) (Int.not_le.mpr h4) ?_
          refine go_iconst (eD DX7_higher 33 rfl) (go_goto (tgt := 66) (eD DX7_higher 34 rfl) rfl (?_))
          refine go_callV (ci := 7) [(0, 1)] (eD DX7_higher 36 rfl) ⟨eMem 2 216 rfl rfl, sX7_answer⟩ ⟨Nat.le_of_ble_eq_true rfl, Nat.le_of_ble_eq_true rfl⟩ (by decide) ⟨rfl, by decide, _, rfl, rfl⟩ rfl rfl (Nat.le_of_ble_eq_true rfl) (Cal.as (zX7_answer w2 1  ) (r2 := some (0, 1)) (w2 := (eU w2 0 2 0)) (by (try simp only [rX7_answer, if_pos h1, if_pos h2, if_neg h3, if_pos h4]) <;> (try rfl)) (by (try simp only [wX7_answer, if_pos h1, if_pos h2, if_neg h3, if_pos h4]) <;> (try rfl))) (?_)
          rw [(k2 h1 h2 h3 h4).1, (k2 h1 h2 h3 h4).2]
          exact go_iret (eD DX7_higher 37 rfl) rfl
        · refine go_icmp_leT (tgt := 64) (eD DX7_higher 32 rfl) rfl (by omega) (by omega) (Int.not_lt.mp h4) ?_
          refine go_bipush (eD DX7_higher 35 rfl) (by decide) (?_)
          refine go_callV (ci := 7) [(0, (-2))] (eD DX7_higher 36 rfl) ⟨eMem 2 216 rfl rfl, sX7_answer⟩ ⟨Nat.le_of_ble_eq_true rfl, Nat.le_of_ble_eq_true rfl⟩ (by decide) ⟨rfl, by decide, _, rfl, rfl⟩ rfl rfl (Nat.le_of_ble_eq_true rfl) (Cal.as (zX7_answer w2 (-2)  ) (r2 := some (0, (-2))) (w2 := (eU w2 0 2 0)) (by (try simp only [rX7_answer, if_pos h1, if_pos h2, if_neg h3, if_neg h4]) <;> (try rfl)) (by (try simp only [wX7_answer, if_pos h1, if_pos h2, if_neg h3, if_neg h4]) <;> (try rfl))) (?_)
          rw [(k3 h1 h2 h3 h4).1, (k3 h1 h2 h3 h4).2]
          exact go_iret (eD DX7_higher 37 rfl) rfl
    · refine go_if_neF (tgt := 28) (eD DX7_higher 9 rfl) rfl (eI_pI _) (not_not_intro (pI0 h2)) ?_
      refine go_aload_n (eD DX7_higher 10 rfl) rfl rfl (go_iconst (eD DX7_higher 11 rfl) (?_))
      refine go_callV (ci := 7) [(0, 1)] (eD DX7_higher 12 rfl) ⟨eMem 2 54 rfl rfl, sX7_refuse⟩ ⟨Nat.le_of_ble_eq_true rfl, Nat.le_of_ble_eq_true rfl⟩ (by decide) ⟨rfl, by decide, _, rfl, rfl⟩ rfl rfl (Nat.le_of_ble_eq_true rfl) (Cal.as (zX7_refuse w 1  ) (r2 := some (0, (-1))) (w2 := (eU w 0 2 1)) (by (try simp only [rX7_refuse, if_pos h1, if_neg h2]) <;> (try rfl)) (by (try simp only [wX7_refuse, if_pos h1, if_neg h2]) <;> (try rfl))) (?_)
      rw [(k4 h1 h2).1, (k4 h1 h2).2]
      exact go_iret (eD DX7_higher 13 rfl) rfl
  · refine go_if_eqT (tgt := 22) (eD DX7_higher 4 rfl) rfl (eI_pI _) (pI0 h1) ?_
    refine go_aload_n (eD DX7_higher 10 rfl) rfl rfl (go_iconst (eD DX7_higher 11 rfl) (?_))
    refine go_callV (ci := 7) [(0, 1)] (eD DX7_higher 12 rfl) ⟨eMem 2 54 rfl rfl, sX7_refuse⟩ ⟨Nat.le_of_ble_eq_true rfl, Nat.le_of_ble_eq_true rfl⟩ (by decide) ⟨rfl, by decide, _, rfl, rfl⟩ rfl rfl (Nat.le_of_ble_eq_true rfl) (Cal.as (zX7_refuse w 1  ) (r2 := some (0, (-1))) (w2 := (eU w 0 2 1)) (by (try simp only [rX7_refuse, if_neg h1]) <;> (try rfl)) (by (try simp only [wX7_refuse, if_neg h1]) <;> (try rfl))) (?_)
    rw [(k5 h1).1, (k5 h1).2]
    exact go_iret (eD DX7_higher 13 rfl) rfl
set_option maxHeartbeats 4000000 in
set_option maxRecDepth 20000 in
theorem tX7_under_0 {r : Option eV} {w9 : eW} (w : eW) (what : Int) (hB : HB w) {w1 : eW} (hw : eI what) (g1 : (0 < w 2 0 ∧ 0 < w 2 1) → Cal mX4_sumUp [eR 24, eR 32] w none w1) (k1 : 0 < (w 2 0) ∧ 0 < (w 2 1) → what = 0 ∨ what = 1 → r = some (1, rX2_part32 w1 what) ∧ w9 = (eU w1 0 2 0)) (k2 : 0 < (w 2 0) ∧ 0 < (w 2 1) → ¬ (what = 0 ∨ what = 1) → r = some (1, (-1)) ∧ w9 = (eU w 0 2 1)) (k3 : ¬ (0 < (w 2 0) ∧ 0 < (w 2 1)) → r = some (1, (-1)) ∧ w9 = (eU w 0 2 1)) : Go mX7_under 0 [(0, eR 0), (1, (0, what))] [] w r w9 := by
  obtain ⟨⟨b1, b2, b3, b4, b5, b6⟩, b7, b8, b9⟩ := id hB
  refine go_aload_n (eD DX7_under 0 rfl) rfl rfl (go_getR (t := 2) (eD DX7_under 1 rfl) fX7_29 (by decide) rfl ⟨rfl, rfl⟩ (go_callV (ci := 0) [] (eD DX7_under 2 rfl) ⟨eMem 2 232 rfl rfl, sX0_stands⟩ ⟨Nat.le_of_ble_eq_true rfl, Nat.le_of_ble_eq_true rfl⟩ (by decide) ⟨rfl, by decide, _, rfl, rfl⟩ rfl rfl (Nat.le_of_ble_eq_true rfl) (y_b_X0_stands w  (by first | assumption | omega)) (?_)))
  by_cases h1 : 0 < (w 2 0) ∧ 0 < (w 2 1)
  · refine go_if_eqF (tgt := 17) (eD DX7_under 3 rfl) rfl (eI_pI _) (pI1 h1) ?_
    refine go_iload_n (eD DX7_under 4 rfl) rfl rfl (go_callS [(0, what)] (eD DX7_under 5 rfl) ⟨eMem 3 128 rfl rfl, sX7_isPartOfTwo⟩ ⟨Nat.le_of_ble_eq_true rfl, Nat.le_of_ble_eq_true rfl⟩ rfl rfl (Nat.le_of_ble_eq_true rfl) (y_b_X7_isPartOfTwo w what (by omega) ) (?_))
    by_cases h2 : what = 0 ∨ what = 1
    · refine go_if_neT (tgt := 24) (eD DX7_under 6 rfl) rfl (eI_pI _) (pI1 h2) ?_
      refine go_aload_n (eD DX7_under 12 rfl) rfl rfl (go_getR (t := 24) (eD DX7_under 13 rfl) fX7_70 (by decide) rfl ⟨rfl, rfl⟩ (go_aload_n (eD DX7_under 14 rfl) rfl rfl (go_getR (t := 32) (eD DX7_under 15 rfl) fX7_77 (by decide) rfl ⟨rfl, rfl⟩ (go_callV (ci := 4) [eR 32] (eD DX7_under 16 rfl) ⟨eMem 4 118 rfl rfl, sX4_sumUp⟩ ⟨Nat.le_of_ble_eq_true rfl, Nat.le_of_ble_eq_true rfl⟩ (by decide) ⟨rfl, by decide, _, rfl, rfl⟩ rfl rfl (Nat.le_of_ble_eq_true rfl) (g1 (by omega)) (go_aload_n (eD DX7_under 17 rfl) rfl rfl (go_aload_n (eD DX7_under 18 rfl) rfl rfl (go_getR (t := 32) (eD DX7_under 19 rfl) fX7_77 (by decide) rfl ⟨rfl, rfl⟩ (go_iload_n (eD DX7_under 20 rfl) rfl rfl (go_callV (ci := 2) [(0, what)] (eD DX7_under 21 rfl) ⟨eMem 3 193 rfl rfl, sX2_part⟩ ⟨Nat.le_of_ble_eq_true rfl, Nat.le_of_ble_eq_true rfl⟩ (by decide) ⟨rfl, by decide, _, rfl, rfl⟩ rfl rfl (Nat.le_of_ble_eq_true rfl) (zX2_part32 w1 what (by omega)) (?_))))))))))
      refine go_callV (ci := 7) [(1, rX2_part32 w1 what)] (eD DX7_under 22 rfl) ⟨eMem 4 86 rfl rfl, sX7_answerLong⟩ ⟨Nat.le_of_ble_eq_true rfl, Nat.le_of_ble_eq_true rfl⟩ (by decide) ⟨rfl, by decide, _, rfl, rfl⟩ rfl rfl (Nat.le_of_ble_eq_true rfl) (Cal.as (zX7_answerLong w1 (rX2_part32 w1 what)  ) (r2 := some (1, rX2_part32 w1 what)) (w2 := (eU w1 0 2 0)) (by (try simp only [rX7_answerLong, if_pos h1, if_pos h2]) <;> (try rfl)) (by (try simp only [wX7_answerLong, if_pos h1, if_pos h2]) <;> (try rfl))) (?_)
      rw [(k1 h1 h2).1, (k1 h1 h2).2]
      exact go_lret (eD DX7_under 23 rfl) rfl
    · refine go_if_neF (tgt := 24) (eD DX7_under 6 rfl) rfl (eI_pI _) (not_not_intro (pI0 h2)) ?_
      refine go_aload_n (eD DX7_under 7 rfl) rfl rfl (go_iconst (eD DX7_under 8 rfl) (?_))
      refine go_callV (ci := 7) [(0, 1)] (eD DX7_under 9 rfl) ⟨eMem 2 54 rfl rfl, sX7_refuse⟩ ⟨Nat.le_of_ble_eq_true rfl, Nat.le_of_ble_eq_true rfl⟩ (by decide) ⟨rfl, by decide, _, rfl, rfl⟩ rfl rfl (Nat.le_of_ble_eq_true rfl) (Cal.as (zX7_refuse w 1  ) (r2 := some (0, (-1))) (w2 := (eU w 0 2 1)) (by (try simp only [rX7_refuse, if_pos h1, if_neg h2]) <;> (try rfl)) (by (try simp only [wX7_refuse, if_pos h1, if_neg h2]) <;> (try rfl))) (?_)
      rw [(k2 h1 h2).1, (k2 h1 h2).2]
      exact go_i2l (eD DX7_under 10 rfl) (by decide) (go_lret (eD DX7_under 11 rfl) rfl)
  · refine go_if_eqT (tgt := 17) (eD DX7_under 3 rfl) rfl (eI_pI _) (pI0 h1) ?_
    refine go_aload_n (eD DX7_under 7 rfl) rfl rfl (go_iconst (eD DX7_under 8 rfl) (?_))
    refine go_callV (ci := 7) [(0, 1)] (eD DX7_under 9 rfl) ⟨eMem 2 54 rfl rfl, sX7_refuse⟩ ⟨Nat.le_of_ble_eq_true rfl, Nat.le_of_ble_eq_true rfl⟩ (by decide) ⟨rfl, by decide, _, rfl, rfl⟩ rfl rfl (Nat.le_of_ble_eq_true rfl) (Cal.as (zX7_refuse w 1  ) (r2 := some (0, (-1))) (w2 := (eU w 0 2 1)) (by (try simp only [rX7_refuse, if_neg h1]) <;> (try rfl)) (by (try simp only [wX7_refuse, if_neg h1]) <;> (try rfl))) (?_)
    rw [(k3 h1).1, (k3 h1).2]
    exact go_i2l (eD DX7_under 10 rfl) (by decide) (go_lret (eD DX7_under 11 rfl) rfl)
set_option maxHeartbeats 4000000 in
set_option maxRecDepth 20000 in
theorem tX7_would_0 {r : Option eV} {w9 : eW} (w : eW) (x y what : Int) (hB : HB w) {wa wb wc : eW} {il : Int} (hx : eI x) (hy : eI y) (hw : eI what) (hl : eI il) (g0 : 0 ≤ x ∧ x < w 2 0 ∧ 0 ≤ y ∧ y < w 2 1 → Cal mX0_isLastInside [eR 2, (0, x), (0, y)] w (some (0, il)) w) (g1 : 0 ≤ x ∧ x < w 2 0 ∧ 0 ≤ y ∧ y < w 2 1 → Cal mX0_flip [eR 2, (0, x), (0, y)] w none wa) (g2 : 0 ≤ x ∧ x < w 2 0 ∧ 0 ≤ y ∧ y < w 2 1 → il = 0 → Cal mX4_sumUp [eR 24, eR 32] wa none wb) (g3 : 0 ≤ x ∧ x < w 2 0 ∧ 0 ≤ y ∧ y < w 2 1 → Cal mX0_flip [eR 2, (0, x), (0, y)] wb none wc) (k1 : 0 ≤ x ∧ x < (w 2 0) ∧ 0 ≤ y ∧ y < (w 2 1) → what = 0 ∨ what = 1 → il = 0 → r = some (1, rX2_part32 wc what) ∧ w9 = (eU wc 0 2 0)) (k2 : 0 ≤ x ∧ x < (w 2 0) ∧ 0 ≤ y ∧ y < (w 2 1) → what = 0 ∨ what = 1 → ¬ (il = 0) → r = some (1, (-1)) ∧ w9 = (eU w 0 2 5)) (k3 : 0 ≤ x ∧ x < (w 2 0) ∧ 0 ≤ y ∧ y < (w 2 1) → ¬ (what = 0 ∨ what = 1) → r = some (1, (-1)) ∧ w9 = (eU w 0 2 1)) (k4 : ¬ (0 ≤ x ∧ x < (w 2 0) ∧ 0 ≤ y ∧ y < (w 2 1)) → r = some (1, (-1)) ∧ w9 = (eU w 0 2 1)) : Go mX7_would 0 [(0, eR 0), (1, (0, x)), (2, (0, y)), (3, (0, what))] [] w r w9 := by
  obtain ⟨⟨b1, b2, b3, b4, b5, b6⟩, b7, b8, b9⟩ := id hB
  refine go_aload_n (eD DX7_would 0 rfl) rfl rfl (go_getR (t := 2) (eD DX7_would 1 rfl) fX7_29 (by decide) rfl ⟨rfl, rfl⟩ (go_iload_n (eD DX7_would 2 rfl) rfl rfl (go_iload_n (eD DX7_would 3 rfl) rfl rfl (go_callV (ci := 0) [(0, x), (0, y)] (eD DX7_would 4 rfl) ⟨eMem 3 90 rfl rfl, sX0_hasCell⟩ ⟨Nat.le_of_ble_eq_true rfl, Nat.le_of_ble_eq_true rfl⟩ (by decide) ⟨rfl, by decide, _, rfl, rfl⟩ rfl rfl (Nat.le_of_ble_eq_true rfl) (y_b_X0_hasCell w x y (by omega) (by omega) (by first | assumption | omega)) (?_)))))
  by_cases h1 : 0 ≤ x ∧ x < (w 2 0) ∧ 0 ≤ y ∧ y < (w 2 1)
  · refine go_if_eqF (tgt := 19) (eD DX7_would 5 rfl) rfl (eI_pI _) (pI1 h1) ?_
    refine go_iload_n (eD DX7_would 6 rfl) rfl rfl (go_callS [(0, what)] (eD DX7_would 7 rfl) ⟨eMem 3 128 rfl rfl, sX7_isPartOfTwo⟩ ⟨Nat.le_of_ble_eq_true rfl, Nat.le_of_ble_eq_true rfl⟩ rfl rfl (Nat.le_of_ble_eq_true rfl) (y_b_X7_isPartOfTwo w what (by omega) ) (?_))
    by_cases h2 : what = 0 ∨ what = 1
    · refine go_if_neT (tgt := 26) (eD DX7_would 8 rfl) rfl (eI_pI _) (pI1 h2) ?_
      refine go_aload_n (eD DX7_would 14 rfl) rfl rfl (go_getR (t := 2) (eD DX7_would 15 rfl) fX7_29 (by decide) rfl ⟨rfl, rfl⟩ (go_iload_n (eD DX7_would 16 rfl) rfl rfl (go_iload_n (eD DX7_would 17 rfl) rfl rfl (go_callV (ci := 0) [(0, x), (0, y)] (eD DX7_would 18 rfl) ⟨eMem 4 130 rfl rfl, sX0_isLastInside⟩ ⟨Nat.le_of_ble_eq_true rfl, Nat.le_of_ble_eq_true rfl⟩ (by decide) ⟨rfl, by decide, _, rfl, rfl⟩ rfl rfl (Nat.le_of_ble_eq_true rfl) (g0 (by omega)) (?_)))))
      by_cases h3 : il = 0
      · refine go_if_eqT (tgt := 45) (eD DX7_would 19 rfl) rfl (by omega) h3 ?_
        refine go_aload_n (eD DX7_would 25 rfl) rfl rfl (go_getR (t := 2) (eD DX7_would 26 rfl) fX7_29 (by decide) rfl ⟨rfl, rfl⟩ (go_iload_n (eD DX7_would 27 rfl) rfl rfl (go_iload_n (eD DX7_would 28 rfl) rfl rfl (go_callV (ci := 0) [(0, x), (0, y)] (eD DX7_would 29 rfl) ⟨eMem 4 136 rfl rfl, sX0_flip⟩ ⟨Nat.le_of_ble_eq_true rfl, Nat.le_of_ble_eq_true rfl⟩ (by decide) ⟨rfl, by decide, _, rfl, rfl⟩ rfl rfl (Nat.le_of_ble_eq_true rfl) (g1 (by omega)) (go_aload_n (eD DX7_would 30 rfl) rfl rfl (go_getR (t := 24) (eD DX7_would 31 rfl) fX7_70 (by decide) rfl ⟨rfl, rfl⟩ (go_aload_n (eD DX7_would 32 rfl) rfl rfl (go_getR (t := 32) (eD DX7_would 33 rfl) fX7_77 (by decide) rfl ⟨rfl, rfl⟩ (go_callV (ci := 4) [eR 32] (eD DX7_would 34 rfl) ⟨eMem 4 118 rfl rfl, sX4_sumUp⟩ ⟨Nat.le_of_ble_eq_true rfl, Nat.le_of_ble_eq_true rfl⟩ (by decide) ⟨rfl, by decide, _, rfl, rfl⟩ rfl rfl (Nat.le_of_ble_eq_true rfl) (g2 (by omega) (by omega)) (go_aload_n (eD DX7_would 35 rfl) rfl rfl (go_getR (t := 2) (eD DX7_would 36 rfl) fX7_29 (by decide) rfl ⟨rfl, rfl⟩ (go_iload_n (eD DX7_would 37 rfl) rfl rfl (go_iload_n (eD DX7_would 38 rfl) rfl rfl (go_callV (ci := 0) [(0, x), (0, y)] (eD DX7_would 39 rfl) ⟨eMem 4 136 rfl rfl, sX0_flip⟩ ⟨Nat.le_of_ble_eq_true rfl, Nat.le_of_ble_eq_true rfl⟩ (by decide) ⟨rfl, by decide, _, rfl, rfl⟩ rfl rfl (Nat.le_of_ble_eq_true rfl) (g3 (by omega)) (go_aload_n (eD DX7_would 40 rfl) rfl rfl (go_aload_n (eD DX7_would 41 rfl) rfl rfl (go_getR (t := 32) (eD DX7_would 42 rfl) fX7_77 (by decide) rfl ⟨rfl, rfl⟩ (go_iload_n (eD DX7_would 43 rfl) rfl rfl (go_callV (ci := 2) [(0, what)] (eD DX7_would 44 rfl) ⟨eMem 3 193 rfl rfl, sX2_part⟩ ⟨Nat.le_of_ble_eq_true rfl, Nat.le_of_ble_eq_true rfl⟩ (by decide) ⟨rfl, by decide, _, rfl, rfl⟩ rfl rfl (Nat.le_of_ble_eq_true rfl) (zX2_part32 wc what (by omega)) (?_))))))))))))))))))))
        refine go_callV (ci := 7) [(1, rX2_part32 wc what)] (eD DX7_would 45 rfl) ⟨eMem 4 86 rfl rfl, sX7_answerLong⟩ ⟨Nat.le_of_ble_eq_true rfl, Nat.le_of_ble_eq_true rfl⟩ (by decide) ⟨rfl, by decide, _, rfl, rfl⟩ rfl rfl (Nat.le_of_ble_eq_true rfl) (Cal.as (zX7_answerLong wc (rX2_part32 wc what)  ) (r2 := some (1, rX2_part32 wc what)) (w2 := (eU wc 0 2 0)) (by (try simp only [rX7_answerLong, if_pos h1, if_pos h2, if_pos h3]) <;> (try rfl)) (by (try simp only [wX7_answerLong, if_pos h1, if_pos h2, if_pos h3]) <;> (try rfl))) (?_)
        rw [(k1 h1 h2 h3).1, (k1 h1 h2 h3).2]
        exact go_lret (eD DX7_would 46 rfl) rfl
      · refine go_if_eqF (tgt := 45) (eD DX7_would 19 rfl) rfl (by omega) h3 ?_
        refine go_aload_n (eD DX7_would 20 rfl) rfl rfl (go_iconst (eD DX7_would 21 rfl) (?_))
        refine go_callV (ci := 7) [(0, 5)] (eD DX7_would 22 rfl) ⟨eMem 2 54 rfl rfl, sX7_refuse⟩ ⟨Nat.le_of_ble_eq_true rfl, Nat.le_of_ble_eq_true rfl⟩ (by decide) ⟨rfl, by decide, _, rfl, rfl⟩ rfl rfl (Nat.le_of_ble_eq_true rfl) (Cal.as (zX7_refuse w 5  ) (r2 := some (0, (-1))) (w2 := (eU w 0 2 5)) (by (try simp only [rX7_refuse, if_pos h1, if_pos h2, if_neg h3]) <;> (try rfl)) (by (try simp only [wX7_refuse, if_pos h1, if_pos h2, if_neg h3]) <;> (try rfl))) (?_)
        rw [(k2 h1 h2 h3).1, (k2 h1 h2 h3).2]
        exact go_i2l (eD DX7_would 23 rfl) (by decide) (go_lret (eD DX7_would 24 rfl) rfl)
    · refine go_if_neF (tgt := 26) (eD DX7_would 8 rfl) rfl (eI_pI _) (not_not_intro (pI0 h2)) ?_
      refine go_aload_n (eD DX7_would 9 rfl) rfl rfl (go_iconst (eD DX7_would 10 rfl) (?_))
      refine go_callV (ci := 7) [(0, 1)] (eD DX7_would 11 rfl) ⟨eMem 2 54 rfl rfl, sX7_refuse⟩ ⟨Nat.le_of_ble_eq_true rfl, Nat.le_of_ble_eq_true rfl⟩ (by decide) ⟨rfl, by decide, _, rfl, rfl⟩ rfl rfl (Nat.le_of_ble_eq_true rfl) (Cal.as (zX7_refuse w 1  ) (r2 := some (0, (-1))) (w2 := (eU w 0 2 1)) (by (try simp only [rX7_refuse, if_pos h1, if_neg h2]) <;> (try rfl)) (by (try simp only [wX7_refuse, if_pos h1, if_neg h2]) <;> (try rfl))) (?_)
      rw [(k3 h1 h2).1, (k3 h1 h2).2]
      exact go_i2l (eD DX7_would 12 rfl) (by decide) (go_lret (eD DX7_would 13 rfl) rfl)
  · refine go_if_eqT (tgt := 19) (eD DX7_would 5 rfl) rfl (eI_pI _) (pI0 h1) ?_
    refine go_aload_n (eD DX7_would 9 rfl) rfl rfl (go_iconst (eD DX7_would 10 rfl) (?_))
    refine go_callV (ci := 7) [(0, 1)] (eD DX7_would 11 rfl) ⟨eMem 2 54 rfl rfl, sX7_refuse⟩ ⟨Nat.le_of_ble_eq_true rfl, Nat.le_of_ble_eq_true rfl⟩ (by decide) ⟨rfl, by decide, _, rfl, rfl⟩ rfl rfl (Nat.le_of_ble_eq_true rfl) (Cal.as (zX7_refuse w 1  ) (r2 := some (0, (-1))) (w2 := (eU w 0 2 1)) (by (try simp only [rX7_refuse, if_neg h1]) <;> (try rfl)) (by (try simp only [wX7_refuse, if_neg h1]) <;> (try rfl))) (?_)
    rw [(k4 h1).1, (k4 h1).2]
    exact go_i2l (eD DX7_would 12 rfl) (by decide) (go_lret (eD DX7_would 13 rfl) rfl)
set_option maxHeartbeats 4000000 in
set_option maxRecDepth 20000 in
theorem tX7_about_0 {r : Option eV} {w9 : eW} (w : eW) (k : Int) (hB : HB w) {w1 w2 w3 : eW} {ci cl : Int} (hk : eI k) (g1 : Cal mX6_build [eR 13] w none w1) (g2 : (0 < w 2 0 ∧ 0 < w 2 1) → Cal mX4_findEvents [eR 24] w none w2) (g3 : (0 < w 2 0 ∧ 0 < w 2 1) → Cal mX4_countLeft [eR 24, (0, 0), (0, 1)] w (some (0, cl)) w3) (g4 : Cal mX0_countInside [eR 2] w (some (0, ci)) w) (k1 : 0 < (w 2 0) ∧ 0 < (w 2 1) → k < 0 → r = some (0, (-1)) ∧ w9 = (eU w 0 2 1)) (k2 : 0 < (w 2 0) ∧ 0 < (w 2 1) → ¬ (k < 0) → 7 < k → r = some (0, (-1)) ∧ w9 = (eU w 0 2 1)) (k3 : 0 < (w 2 0) ∧ 0 < (w 2 1) → ¬ (k < 0) → ¬ (7 < k) → k = 0 → r = some (0, w 2 0) ∧ w9 = (eU w 0 2 0)) (k4 : 0 < (w 2 0) ∧ 0 < (w 2 1) → ¬ (k < 0) → ¬ (7 < k) → ¬ (k = 0) → k = 1 → r = some (0, w 2 1) ∧ w9 = (eU w 0 2 0)) (k5 : 0 < (w 2 0) ∧ 0 < (w 2 1) → ¬ (k < 0) → ¬ (7 < k) → ¬ (k = 0) → ¬ (k = 1) → k = 2 → r = some (0, ci) ∧ w9 = (eU w 0 2 0)) (k6 : 0 < (w 2 0) ∧ 0 < (w 2 1) → ¬ (k < 0) → ¬ (7 < k) → ¬ (k = 0) → ¬ (k = 1) → ¬ (k = 2) → k = 3 → r = some (0, w1 13 3) ∧ w9 = (eU w1 0 2 0)) (k7 : 0 < (w 2 0) ∧ 0 < (w 2 1) → ¬ (k < 0) → ¬ (7 < k) → ¬ (k = 0) → ¬ (k = 1) → ¬ (k = 2) → ¬ (k = 3) → k = 4 → r = some (0, w 2 2) ∧ w9 = (eU w 0 2 0)) (k8 : 0 < (w 2 0) ∧ 0 < (w 2 1) → ¬ (k < 0) → ¬ (7 < k) → ¬ (k = 0) → ¬ (k = 1) → ¬ (k = 2) → ¬ (k = 3) → ¬ (k = 4) → k = 5 → r = some (0, w2 24 8) ∧ w9 = (eU w2 0 2 0)) (k9 : 0 < (w 2 0) ∧ 0 < (w 2 1) → ¬ (k < 0) → ¬ (7 < k) → ¬ (k = 0) → ¬ (k = 1) → ¬ (k = 2) → ¬ (k = 3) → ¬ (k = 4) → ¬ (k = 5) → k = 6 → r = some (0, cl) ∧ w9 = (eU w3 0 2 0)) (k10 : 0 < (w 2 0) ∧ 0 < (w 2 1) → ¬ (k < 0) → ¬ (7 < k) → ¬ (k = 0) → ¬ (k = 1) → ¬ (k = 2) → ¬ (k = 3) → ¬ (k = 4) → ¬ (k = 5) → ¬ (k = 6) → r = some (0, w 6 1) ∧ w9 = (eU w 0 2 0)) (k11 : ¬ (0 < (w 2 0) ∧ 0 < (w 2 1)) → r = some (0, (-1)) ∧ w9 = (eU w 0 2 1)) : Go mX7_about 0 [(0, eR 0), (1, (0, k))] [] w r w9 := by
  obtain ⟨⟨b1, b2, b3, b4, b5, b6⟩, b7, b8, b9⟩ := id hB
  refine go_aload_n (eD DX7_about 0 rfl) rfl rfl (go_getR (t := 2) (eD DX7_about 1 rfl) fX7_29 (by decide) rfl ⟨rfl, rfl⟩ (go_callV (ci := 0) [] (eD DX7_about 2 rfl) ⟨eMem 2 232 rfl rfl, sX0_stands⟩ ⟨Nat.le_of_ble_eq_true rfl, Nat.le_of_ble_eq_true rfl⟩ (by decide) ⟨rfl, by decide, _, rfl, rfl⟩ rfl rfl (Nat.le_of_ble_eq_true rfl) (y_b_X0_stands w  (by first | assumption | omega)) (?_)))
  by_cases h1 : 0 < (w 2 0) ∧ 0 < (w 2 1)
  · refine go_if_eqF (tgt := 20) (eD DX7_about 3 rfl) rfl (eI_pI _) (pI1 h1) ?_
    refine go_iload_n (eD DX7_about 4 rfl) rfl rfl (?_)
    by_cases h2 : k < 0
    · refine go_if_ltT (tgt := 20) (eD DX7_about 5 rfl) rfl (by omega) h2 ?_
      refine go_aload_n (eD DX7_about 9 rfl) rfl rfl (go_iconst (eD DX7_about 10 rfl) (?_))
      refine go_callV (ci := 7) [(0, 1)] (eD DX7_about 11 rfl) ⟨eMem 2 54 rfl rfl, sX7_refuse⟩ ⟨Nat.le_of_ble_eq_true rfl, Nat.le_of_ble_eq_true rfl⟩ (by decide) ⟨rfl, by decide, _, rfl, rfl⟩ rfl rfl (Nat.le_of_ble_eq_true rfl) (Cal.as (zX7_refuse w 1  ) (r2 := some (0, (-1))) (w2 := (eU w 0 2 1)) (by (try simp only [rX7_refuse, if_pos h1, if_pos h2]) <;> (try rfl)) (by (try simp only [wX7_refuse, if_pos h1, if_pos h2]) <;> (try rfl))) (?_)
      rw [(k1 h1 h2).1, (k1 h1 h2).2]
      exact go_iret (eD DX7_about 12 rfl) rfl
    · refine go_if_ltF (tgt := 20) (eD DX7_about 5 rfl) rfl (by omega) h2 ?_
      refine go_iload_n (eD DX7_about 6 rfl) rfl rfl (go_bipush (eD DX7_about 7 rfl) (by decide) (?_))
      by_cases h3 : 7 < k
      · refine go_icmp_leF (tgt := 26) (eD DX7_about 8 rfl) rfl (by omega) (by decide) (Int.not_le.mpr h3) ?_
        refine go_aload_n (eD DX7_about 9 rfl) rfl rfl (go_iconst (eD DX7_about 10 rfl) (?_))
        refine go_callV (ci := 7) [(0, 1)] (eD DX7_about 11 rfl) ⟨eMem 2 54 rfl rfl, sX7_refuse⟩ ⟨Nat.le_of_ble_eq_true rfl, Nat.le_of_ble_eq_true rfl⟩ (by decide) ⟨rfl, by decide, _, rfl, rfl⟩ rfl rfl (Nat.le_of_ble_eq_true rfl) (Cal.as (zX7_refuse w 1  ) (r2 := some (0, (-1))) (w2 := (eU w 0 2 1)) (by (try simp only [rX7_refuse, if_pos h1, if_neg h2, if_pos h3]) <;> (try rfl)) (by (try simp only [wX7_refuse, if_pos h1, if_neg h2, if_pos h3]) <;> (try rfl))) (?_)
        rw [(k2 h1 h2 h3).1, (k2 h1 h2 h3).2]
        exact go_iret (eD DX7_about 12 rfl) rfl
      · refine go_icmp_leT (tgt := 26) (eD DX7_about 8 rfl) rfl (by omega) (by decide) (Int.not_lt.mp h3) ?_
        refine go_iload_n (eD DX7_about 13 rfl) rfl rfl (?_)
        by_cases h4 : k = 0
        · refine go_tabIn (tgt := 68) 0 (eD DX7_about 14 rfl) (by decide) rfl rfl h4 ?_
          refine go_aload_n (eD DX7_about 15 rfl) rfl rfl (go_aload_n (eD DX7_about 16 rfl) rfl rfl (go_getR (t := 2) (eD DX7_about 17 rfl) fX7_29 (by decide) rfl ⟨rfl, rfl⟩ (go_getI (kz := 0) (eD DX7_about 18 rfl) fX7_118 (by decide) rfl rfl rfl (?_))))
          refine go_callV (ci := 7) [(0, w 2 0)] (eD DX7_about 19 rfl) ⟨eMem 2 216 rfl rfl, sX7_answer⟩ ⟨Nat.le_of_ble_eq_true rfl, Nat.le_of_ble_eq_true rfl⟩ (by decide) ⟨rfl, by decide, _, rfl, rfl⟩ rfl rfl (Nat.le_of_ble_eq_true rfl) (Cal.as (zX7_answer w (w 2 0)  ) (r2 := some (0, w 2 0)) (w2 := (eU w 0 2 0)) (by (try simp only [rX7_answer, if_pos h1, if_neg h2, if_neg h3, if_pos h4]) <;> (try rfl)) (by (try simp only [wX7_answer, if_pos h1, if_neg h2, if_neg h3, if_pos h4]) <;> (try rfl))) (?_)
          rw [(k3 h1 h2 h3 h4).1, (k3 h1 h2 h3 h4).2]
          exact go_iret (eD DX7_about 20 rfl) rfl
        · by_cases h5 : k = 1
          · refine go_tabIn (tgt := 80) 1 (eD DX7_about 14 rfl) (by decide) rfl rfl h5 ?_
            refine go_aload_n (eD DX7_about 21 rfl) rfl rfl (go_aload_n (eD DX7_about 22 rfl) rfl rfl (go_getR (t := 2) (eD DX7_about 23 rfl) fX7_29 (by decide) rfl ⟨rfl, rfl⟩ (go_getI (kz := 1) (eD DX7_about 24 rfl) fX7_121 (by decide) rfl rfl rfl (?_))))
            refine go_callV (ci := 7) [(0, w 2 1)] (eD DX7_about 25 rfl) ⟨eMem 2 216 rfl rfl, sX7_answer⟩ ⟨Nat.le_of_ble_eq_true rfl, Nat.le_of_ble_eq_true rfl⟩ (by decide) ⟨rfl, by decide, _, rfl, rfl⟩ rfl rfl (Nat.le_of_ble_eq_true rfl) (Cal.as (zX7_answer w (w 2 1)  ) (r2 := some (0, w 2 1)) (w2 := (eU w 0 2 0)) (by (try simp only [rX7_answer, if_pos h1, if_neg h2, if_neg h3, if_neg h4, if_pos h5]) <;> (try rfl)) (by (try simp only [wX7_answer, if_pos h1, if_neg h2, if_neg h3, if_neg h4, if_pos h5]) <;> (try rfl))) (?_)
            rw [(k4 h1 h2 h3 h4 h5).1, (k4 h1 h2 h3 h4 h5).2]
            exact go_iret (eD DX7_about 26 rfl) rfl
          · by_cases h6 : k = 2
            · refine go_tabIn (tgt := 92) 2 (eD DX7_about 14 rfl) (by decide) rfl rfl h6 ?_
              refine go_aload_n (eD DX7_about 27 rfl) rfl rfl (go_aload_n (eD DX7_about 28 rfl) rfl rfl (go_getR (t := 2) (eD DX7_about 29 rfl) fX7_29 (by decide) rfl ⟨rfl, rfl⟩ (go_callV (ci := 0) [] (eD DX7_about 30 rfl) ⟨eMem 2 215 rfl rfl, sX0_countInside⟩ ⟨Nat.le_of_ble_eq_true rfl, Nat.le_of_ble_eq_true rfl⟩ (by decide) ⟨rfl, by decide, _, rfl, rfl⟩ rfl rfl (Nat.le_of_ble_eq_true rfl) g4 (?_))))
              refine go_callV (ci := 7) [(0, ci)] (eD DX7_about 31 rfl) ⟨eMem 2 216 rfl rfl, sX7_answer⟩ ⟨Nat.le_of_ble_eq_true rfl, Nat.le_of_ble_eq_true rfl⟩ (by decide) ⟨rfl, by decide, _, rfl, rfl⟩ rfl rfl (Nat.le_of_ble_eq_true rfl) (Cal.as (zX7_answer w ci  ) (r2 := some (0, ci)) (w2 := (eU w 0 2 0)) (by (try simp only [rX7_answer, if_pos h1, if_neg h2, if_neg h3, if_neg h4, if_neg h5, if_pos h6]) <;> (try rfl)) (by (try simp only [wX7_answer, if_pos h1, if_neg h2, if_neg h3, if_neg h4, if_neg h5, if_pos h6]) <;> (try rfl))) (?_)
              rw [(k5 h1 h2 h3 h4 h5 h6).1, (k5 h1 h2 h3 h4 h5 h6).2]
              exact go_iret (eD DX7_about 32 rfl) rfl
            · by_cases h7 : k = 3
              · refine go_tabIn (tgt := 104) 3 (eD DX7_about 14 rfl) (by decide) rfl rfl h7 ?_
                refine go_aload_n (eD DX7_about 33 rfl) rfl rfl (go_getR (t := 13) (eD DX7_about 34 rfl) fX7_54 (by decide) rfl ⟨rfl, rfl⟩ (go_callV (ci := 6) [] (eD DX7_about 35 rfl) ⟨eMem 2 236 rfl rfl, sX6_build⟩ ⟨Nat.le_of_ble_eq_true rfl, Nat.le_of_ble_eq_true rfl⟩ (by decide) ⟨rfl, by decide, _, rfl, rfl⟩ rfl rfl (Nat.le_of_ble_eq_true rfl) g1 (go_aload_n (eD DX7_about 36 rfl) rfl rfl (go_aload_n (eD DX7_about 37 rfl) rfl rfl (go_getR (t := 13) (eD DX7_about 38 rfl) fX7_54 (by decide) rfl ⟨rfl, rfl⟩ (go_getI (kz := 3) (eD DX7_about 39 rfl) fX7_127 (by decide) rfl rfl rfl (?_)))))))
                refine go_callV (ci := 7) [(0, w1 13 3)] (eD DX7_about 40 rfl) ⟨eMem 2 216 rfl rfl, sX7_answer⟩ ⟨Nat.le_of_ble_eq_true rfl, Nat.le_of_ble_eq_true rfl⟩ (by decide) ⟨rfl, by decide, _, rfl, rfl⟩ rfl rfl (Nat.le_of_ble_eq_true rfl) (Cal.as (zX7_answer w1 (w1 13 3)  ) (r2 := some (0, w1 13 3)) (w2 := (eU w1 0 2 0)) (by (try simp only [rX7_answer, if_pos h1, if_neg h2, if_neg h3, if_neg h4, if_neg h5, if_neg h6, if_pos h7]) <;> (try rfl)) (by (try simp only [wX7_answer, if_pos h1, if_neg h2, if_neg h3, if_neg h4, if_neg h5, if_neg h6, if_pos h7]) <;> (try rfl))) (?_)
                rw [(k6 h1 h2 h3 h4 h5 h6 h7).1, (k6 h1 h2 h3 h4 h5 h6 h7).2]
                exact go_iret (eD DX7_about 41 rfl) rfl
              · by_cases h8 : k = 4
                · refine go_tabIn (tgt := 123) 4 (eD DX7_about 14 rfl) (by decide) rfl rfl h8 ?_
                  refine go_aload_n (eD DX7_about 42 rfl) rfl rfl (go_aload_n (eD DX7_about 43 rfl) rfl rfl (go_getR (t := 2) (eD DX7_about 44 rfl) fX7_29 (by decide) rfl ⟨rfl, rfl⟩ (go_getI (kz := 2) (eD DX7_about 45 rfl) fX7_128 (by decide) rfl rfl rfl (?_))))
                  refine go_callV (ci := 7) [(0, w 2 2)] (eD DX7_about 46 rfl) ⟨eMem 2 216 rfl rfl, sX7_answer⟩ ⟨Nat.le_of_ble_eq_true rfl, Nat.le_of_ble_eq_true rfl⟩ (by decide) ⟨rfl, by decide, _, rfl, rfl⟩ rfl rfl (Nat.le_of_ble_eq_true rfl) (Cal.as (zX7_answer w (w 2 2)  ) (r2 := some (0, w 2 2)) (w2 := (eU w 0 2 0)) (by (try simp only [rX7_answer, if_pos h1, if_neg h2, if_neg h3, if_neg h4, if_neg h5, if_neg h6, if_neg h7, if_pos h8]) <;> (try rfl)) (by (try simp only [wX7_answer, if_pos h1, if_neg h2, if_neg h3, if_neg h4, if_neg h5, if_neg h6, if_neg h7, if_pos h8]) <;> (try rfl))) (?_)
                  rw [(k7 h1 h2 h3 h4 h5 h6 h7 h8).1, (k7 h1 h2 h3 h4 h5 h6 h7 h8).2]
                  exact go_iret (eD DX7_about 47 rfl) rfl
                · by_cases h9 : k = 5
                  · refine go_tabIn (tgt := 135) 5 (eD DX7_about 14 rfl) (by decide) rfl rfl h9 ?_
                    refine go_aload_n (eD DX7_about 48 rfl) rfl rfl (go_getR (t := 24) (eD DX7_about 49 rfl) fX7_70 (by decide) rfl ⟨rfl, rfl⟩ (go_callV (ci := 4) [] (eD DX7_about 50 rfl) ⟨eMem 3 27 rfl rfl, sX4_findEvents⟩ ⟨Nat.le_of_ble_eq_true rfl, Nat.le_of_ble_eq_true rfl⟩ (by decide) ⟨rfl, by decide, _, rfl, rfl⟩ rfl rfl (Nat.le_of_ble_eq_true rfl) (g2 (by omega)) (go_aload_n (eD DX7_about 51 rfl) rfl rfl (go_aload_n (eD DX7_about 52 rfl) rfl rfl (go_getR (t := 24) (eD DX7_about 53 rfl) fX7_70 (by decide) rfl ⟨rfl, rfl⟩ (go_getI (kz := 8) (eD DX7_about 54 rfl) fX7_134 (by decide) rfl rfl rfl (?_)))))))
                    refine go_callV (ci := 7) [(0, w2 24 8)] (eD DX7_about 55 rfl) ⟨eMem 2 216 rfl rfl, sX7_answer⟩ ⟨Nat.le_of_ble_eq_true rfl, Nat.le_of_ble_eq_true rfl⟩ (by decide) ⟨rfl, by decide, _, rfl, rfl⟩ rfl rfl (Nat.le_of_ble_eq_true rfl) (Cal.as (zX7_answer w2 (w2 24 8)  ) (r2 := some (0, w2 24 8)) (w2 := (eU w2 0 2 0)) (by (try simp only [rX7_answer, if_pos h1, if_neg h2, if_neg h3, if_neg h4, if_neg h5, if_neg h6, if_neg h7, if_neg h8, if_pos h9]) <;> (try rfl)) (by (try simp only [wX7_answer, if_pos h1, if_neg h2, if_neg h3, if_neg h4, if_neg h5, if_neg h6, if_neg h7, if_neg h8, if_pos h9]) <;> (try rfl))) (?_)
                    rw [(k8 h1 h2 h3 h4 h5 h6 h7 h8 h9).1, (k8 h1 h2 h3 h4 h5 h6 h7 h8 h9).2]
                    exact go_iret (eD DX7_about 56 rfl) rfl
                  · by_cases h10 : k = 6
                    · refine go_tabIn (tgt := 154) 6 (eD DX7_about 14 rfl) (by decide) rfl rfl h10 ?_
                      refine go_aload_n (eD DX7_about 57 rfl) rfl rfl (go_aload_n (eD DX7_about 58 rfl) rfl rfl (go_getR (t := 24) (eD DX7_about 59 rfl) fX7_70 (by decide) rfl ⟨rfl, rfl⟩ (go_iconst (eD DX7_about 60 rfl) (go_iconst (eD DX7_about 61 rfl) (go_callV (ci := 4) [(0, 0), (0, 1)] (eD DX7_about 62 rfl) ⟨eMem 3 73 rfl rfl, sX4_countLeft⟩ ⟨Nat.le_of_ble_eq_true rfl, Nat.le_of_ble_eq_true rfl⟩ (by decide) ⟨rfl, by decide, _, rfl, rfl⟩ rfl rfl (Nat.le_of_ble_eq_true rfl) (g3 (by omega)) (?_))))))
                      refine go_callV (ci := 7) [(0, cl)] (eD DX7_about 63 rfl) ⟨eMem 2 216 rfl rfl, sX7_answer⟩ ⟨Nat.le_of_ble_eq_true rfl, Nat.le_of_ble_eq_true rfl⟩ (by decide) ⟨rfl, by decide, _, rfl, rfl⟩ rfl rfl (Nat.le_of_ble_eq_true rfl) (Cal.as (zX7_answer w3 cl  ) (r2 := some (0, cl)) (w2 := (eU w3 0 2 0)) (by (try simp only [rX7_answer, if_pos h1, if_neg h2, if_neg h3, if_neg h4, if_neg h5, if_neg h6, if_neg h7, if_neg h8, if_neg h9, if_pos h10]) <;> (try rfl)) (by (try simp only [wX7_answer, if_pos h1, if_neg h2, if_neg h3, if_neg h4, if_neg h5, if_neg h6, if_neg h7, if_neg h8, if_neg h9, if_pos h10]) <;> (try rfl))) (?_)
                      rw [(k9 h1 h2 h3 h4 h5 h6 h7 h8 h9 h10).1, (k9 h1 h2 h3 h4 h5 h6 h7 h8 h9 h10).2]
                      exact go_iret (eD DX7_about 64 rfl) rfl
                    · refine go_tabOut (tgt := 168) (eD DX7_about 14 rfl) (by omega) rfl (by omega) (?_)
                      refine go_aload_n (eD DX7_about 65 rfl) rfl rfl (go_aload_n (eD DX7_about 66 rfl) rfl rfl (go_getR (t := 6) (eD DX7_about 67 rfl) fX7_36 (by decide) rfl ⟨rfl, rfl⟩ (go_getI (kz := 1) (eD DX7_about 68 rfl) fX7_101 (by decide) rfl rfl rfl (?_))))
                      refine go_callV (ci := 7) [(0, w 6 1)] (eD DX7_about 69 rfl) ⟨eMem 2 216 rfl rfl, sX7_answer⟩ ⟨Nat.le_of_ble_eq_true rfl, Nat.le_of_ble_eq_true rfl⟩ (by decide) ⟨rfl, by decide, _, rfl, rfl⟩ rfl rfl (Nat.le_of_ble_eq_true rfl) (Cal.as (zX7_answer w (w 6 1)  ) (r2 := some (0, w 6 1)) (w2 := (eU w 0 2 0)) (by (try simp only [rX7_answer, if_pos h1, if_neg h2, if_neg h3, if_neg h4, if_neg h5, if_neg h6, if_neg h7, if_neg h8, if_neg h9, if_neg h10]) <;> (try rfl)) (by (try simp only [wX7_answer, if_pos h1, if_neg h2, if_neg h3, if_neg h4, if_neg h5, if_neg h6, if_neg h7, if_neg h8, if_neg h9, if_neg h10]) <;> (try rfl))) (?_)
                      rw [(k10 h1 h2 h3 h4 h5 h6 h7 h8 h9 h10).1, (k10 h1 h2 h3 h4 h5 h6 h7 h8 h9 h10).2]
                      exact go_iret (eD DX7_about 70 rfl) rfl
  · refine go_if_eqT (tgt := 20) (eD DX7_about 3 rfl) rfl (eI_pI _) (pI0 h1) ?_
    refine go_aload_n (eD DX7_about 9 rfl) rfl rfl (go_iconst (eD DX7_about 10 rfl) (?_))
    refine go_callV (ci := 7) [(0, 1)] (eD DX7_about 11 rfl) ⟨eMem 2 54 rfl rfl, sX7_refuse⟩ ⟨Nat.le_of_ble_eq_true rfl, Nat.le_of_ble_eq_true rfl⟩ (by decide) ⟨rfl, by decide, _, rfl, rfl⟩ rfl rfl (Nat.le_of_ble_eq_true rfl) (Cal.as (zX7_refuse w 1  ) (r2 := some (0, (-1))) (w2 := (eU w 0 2 1)) (by (try simp only [rX7_refuse, if_neg h1]) <;> (try rfl)) (by (try simp only [wX7_refuse, if_neg h1]) <;> (try rfl))) (?_)
    rw [(k11 h1).1, (k11 h1).2]
    exact go_iret (eD DX7_about 12 rfl) rfl
