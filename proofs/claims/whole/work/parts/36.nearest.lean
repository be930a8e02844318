abbrev hb14 (n i : Int) : Prop := 0 ≤ i ∧ i < 14 ∧ n / 2 ^ i.toNat % 2 = 1
def rX5_hasBit (w : eW) (bits i : Int) : Int := if i < 0 then 0 else (if i < 14 then (if (eAnd (bits / 2 ^ (i).toNat) 1) = 1 then 1 else 0) else 0)
set_option maxRecDepth 20000 in
theorem zX5_hasBit (w : eW) (bits i : Int) (hbits : eI bits) (hi : eI i) (hb : 0 ≤ bits ∧ bits < 16384) : Cal mX5_hasBit [(0, bits), (0, i)] w (some (0, rX5_hasBit w bits i)) w := by
  have e8 : 0 ≤ i → i < 14 → eI (eAnd (bits / 2 ^ i.toNat) 1) := fun g0 g1 => by rw [eAnd_1 (e_div2 (by omega))]; omega
  unfold rX5_hasBit
  refine Cal.of (by decide +kernel) (Nat.le_of_ble_eq_true rfl) ?_
  show Go _ 0 [(0, (0, bits)), (1, (0, i))] [] _ _ _
  refine go_iload_n (eD DX5_hasBit 0 rfl) rfl rfl (?_)
  by_cases h1 : i < 0
  · refine go_if_ltT (tgt := 23) (eD DX5_hasBit 1 rfl) rfl (by omega) h1 ?_
    simp only [if_pos h1]
    exact go_iconst (eD DX5_hasBit 14 rfl) (go_zret (eD DX5_hasBit 15 rfl) rfl (by decide))
  · refine go_if_ltF (tgt := 23) (eD DX5_hasBit 1 rfl) rfl (by omega) h1 ?_
    refine go_iload_n (eD DX5_hasBit 2 rfl) rfl rfl (go_bipush (eD DX5_hasBit 3 rfl) (by decide) (?_))
    by_cases h2 : i < 14
    · refine go_icmp_geF (tgt := 23) (eD DX5_hasBit 4 rfl) rfl (by omega) (by decide) (Int.not_le.mpr h2) ?_
      refine go_iload_n (eD DX5_hasBit 5 rfl) rfl rfl (go_iload_n (eD DX5_hasBit 6 rfl) rfl rfl (go_ishr (eD DX5_hasBit 7 rfl) (by omega) (by omega) (go_iconst (eD DX5_hasBit 8 rfl) (go_iand (eD DX5_hasBit 9 rfl) (go_iconst (eD DX5_hasBit 10 rfl) (?_))))))
      by_cases h3 : (eAnd (bits / 2 ^ (i).toNat) 1) = 1
      · refine go_icmp_neF (tgt := 23) (eD DX5_hasBit 11 rfl) rfl (by omega) (by decide) (not_not_intro h3) ?_
        simp only [if_neg h1, if_pos h2, if_pos h3]
        exact go_iconst (eD DX5_hasBit 12 rfl) (go_goto (tgt := 24) (eD DX5_hasBit 13 rfl) rfl (go_zret (eD DX5_hasBit 15 rfl) rfl (by decide)))
      · refine go_icmp_neT (tgt := 23) (eD DX5_hasBit 11 rfl) rfl (by omega) (by decide) h3 ?_
        simp only [if_neg h1, if_pos h2, if_neg h3]
        exact go_iconst (eD DX5_hasBit 14 rfl) (go_zret (eD DX5_hasBit 15 rfl) rfl (by decide))
    · refine go_icmp_geT (tgt := 23) (eD DX5_hasBit 4 rfl) rfl (by omega) (by decide) (Int.not_lt.mp h2) ?_
      simp only [if_neg h1, if_neg h2]
      exact go_iconst (eD DX5_hasBit 14 rfl) (go_zret (eD DX5_hasBit 15 rfl) rfl (by decide))
theorem y_b_X5_hasBit (w : eW) (bits i : Int) (hi : eI i) (hb : 0 ≤ bits ∧ bits < 16384) : Cal mX5_hasBit [(0, bits), (0, i)] w (some (0, if hb14 bits i then 1 else 0)) w := by
  refine Cal.as (zX5_hasBit w bits i (by omega) hi hb) ?_ rfl
  unfold rX5_hasBit
  congr 2
  by_cases h1 : 0 ≤ i ∧ i < 14
  · rw [if_neg (by omega), if_pos h1.2, eAnd_1 (e_div2 (by omega))]
    by_cases h3 : bits / 2 ^ i.toNat % 2 = 1
    · rw [if_pos h3, if_pos ⟨h1.1, h1.2, h3⟩]
    · rw [if_neg h3, if_neg (fun q => h3 q.2.2)]
  · rw [if_neg (c := hb14 bits i) (fun q => h1 ⟨q.1, q.2.1⟩)]
    (repeat' split) <;> first | rfl | omega
set_option maxHeartbeats 4000000 in
set_option maxRecDepth 20000 in
theorem tX5_nearestTime_0 {r : Option eV} {w9 : eW} (w : eW) (lane place ahead behind : Int) (hb : 0 ≤ lane ∧ lane < 16384) (hp : 0 ≤ place ∧ place ≤ 56) (k1 : (place % 4) = 0 → hb14 lane (place / 4) → hb14 lane ((place / 4) - 1) → Go mX5_nearestTime 49 [(0, (0, lane)), (1, (0, place)), (2, (0, ahead)), (3, (0, behind)), (5, (0, (place / 4) - 1)), (6, (0, place / 4)), (7, (0, 0))] [] w r w9) (k2 : (place % 4) = 0 → hb14 lane (place / 4) → ¬ (hb14 lane ((place / 4) - 1)) → r = some (0, 0) ∧ w9 = w) (k3 : (place % 4) = 0 → ¬ (hb14 lane (place / 4)) → r = some (0, 0) ∧ w9 = w) (k4 : ¬ ((place % 4) = 0) → hb14 lane (place / 4) → Go mX5_nearestTime 49 [(0, (0, lane)), (1, (0, place)), (2, (0, ahead)), (3, (0, behind)), (5, (0, place / 4)), (6, (0, place / 4)), (7, (0, 0))] [] w r w9) (k5 : ¬ ((place % 4) = 0) → ¬ (hb14 lane (place / 4)) → r = some (0, 0) ∧ w9 = w) : Go mX5_nearestTime 0 [(0, (0, lane)), (1, (0, place)), (2, (0, ahead)), (3, (0, behind))] [] w r w9 := by
  refine go_iload_n (eD DX5_nearestTime 0 rfl) rfl rfl (go_iconst (eD DX5_nearestTime 1 rfl) (go_idiv (eD DX5_nearestTime 2 rfl) (by omega) (by decide) (by omega) (show (0 : Int) < 4 from by decide) (go_istore (eD DX5_nearestTime 3 rfl) (by decide) (go_iload_n (eD DX5_nearestTime 4 rfl) rfl rfl (go_iconst (eD DX5_nearestTime 5 rfl) (go_irem (eD DX5_nearestTime 6 rfl) (by omega) (by decide) (by omega) (show (0 : Int) < 4 from by decide) (?_)))))))
  by_cases h1 : (place % 4) = 0
  · refine go_if_neF (tgt := 18) (eD DX5_nearestTime 7 rfl) rfl (by omega) (not_not_intro h1) ?_
    refine go_iload (eD DX5_nearestTime 8 rfl) rfl (go_iconst (eD DX5_nearestTime 9 rfl) (go_isub (eD DX5_nearestTime 10 rfl) (go_goto (tgt := 20) (eD DX5_nearestTime 11 rfl) rfl (go_istore (eD DX5_nearestTime 13 rfl) (by decide) (go_iload_n (eD DX5_nearestTime 14 rfl) rfl rfl (go_iload (eD DX5_nearestTime 15 rfl) rfl (go_callS [(0, lane), (0, place / 4)] (eD DX5_nearestTime 16 rfl) ⟨eMem 3 166 rfl rfl, sX5_hasBit⟩ ⟨Nat.le_of_ble_eq_true rfl, Nat.le_of_ble_eq_true rfl⟩ rfl rfl (Nat.le_of_ble_eq_true rfl) (y_b_X5_hasBit w lane (place / 4) (by omega) (by omega)) (?_))))))))
    by_cases h2 : hb14 lane (place / 4)
    · refine go_if_eqF (tgt := 40) (eD DX5_nearestTime 17 rfl) rfl (eI_pI _) (pI1 h2) ?_
      refine go_iload_n (eD DX5_nearestTime 18 rfl) rfl rfl (go_iload (eD DX5_nearestTime 19 rfl) rfl (go_callS [(0, lane), (0, (place / 4) - 1)] (eD DX5_nearestTime 20 rfl) ⟨eMem 3 166 rfl rfl, sX5_hasBit⟩ ⟨Nat.le_of_ble_eq_true rfl, Nat.le_of_ble_eq_true rfl⟩ rfl rfl (Nat.le_of_ble_eq_true rfl) (y_b_X5_hasBit w lane ((place / 4) - 1) (by omega) (by omega)) (?_)))
      by_cases h3 : hb14 lane ((place / 4) - 1)
      · refine go_if_neT (tgt := 42) (eD DX5_nearestTime 21 rfl) rfl (eI_pI _) (pI1 h3) ?_
        exact go_iload (eD DX5_nearestTime 24 rfl) rfl (go_istore (eD DX5_nearestTime 25 rfl) (by decide) (go_iconst (eD DX5_nearestTime 26 rfl) (go_istore (eD DX5_nearestTime 27 rfl) (by decide) (Go.pick [4, 5, 6, 7, 2, 1, 0] rfl (k1 h1 h2 h3)))))
      · refine go_if_neF (tgt := 42) (eD DX5_nearestTime 21 rfl) rfl (eI_pI _) (not_not_intro (pI0 h3)) ?_
        rw [(k2 h1 h2 h3).1, (k2 h1 h2 h3).2]
        exact go_iconst (eD DX5_nearestTime 22 rfl) (go_iret (eD DX5_nearestTime 23 rfl) rfl)
    · refine go_if_eqT (tgt := 40) (eD DX5_nearestTime 17 rfl) rfl (eI_pI _) (pI0 h2) ?_
      rw [(k3 h1 h2).1, (k3 h1 h2).2]
      exact go_iconst (eD DX5_nearestTime 22 rfl) (go_iret (eD DX5_nearestTime 23 rfl) rfl)
  · refine go_if_neT (tgt := 18) (eD DX5_nearestTime 7 rfl) rfl (by omega) h1 ?_
    refine go_iload (eD DX5_nearestTime 12 rfl) rfl (go_istore (eD DX5_nearestTime 13 rfl) (by decide) (go_iload_n (eD DX5_nearestTime 14 rfl) rfl rfl (go_iload (eD DX5_nearestTime 15 rfl) rfl (go_callS [(0, lane), (0, place / 4)] (eD DX5_nearestTime 16 rfl) ⟨eMem 3 166 rfl rfl, sX5_hasBit⟩ ⟨Nat.le_of_ble_eq_true rfl, Nat.le_of_ble_eq_true rfl⟩ rfl rfl (Nat.le_of_ble_eq_true rfl) (y_b_X5_hasBit w lane (place / 4) (by omega) (by omega)) (?_)))))
    by_cases h2 : hb14 lane (place / 4)
    · refine go_if_eqF (tgt := 40) (eD DX5_nearestTime 17 rfl) rfl (eI_pI _) (pI1 h2) ?_
      refine go_iload_n (eD DX5_nearestTime 18 rfl) rfl rfl (go_iload (eD DX5_nearestTime 19 rfl) rfl (go_callS [(0, lane), (0, place / 4)] (eD DX5_nearestTime 20 rfl) ⟨eMem 3 166 rfl rfl, sX5_hasBit⟩ ⟨Nat.le_of_ble_eq_true rfl, Nat.le_of_ble_eq_true rfl⟩ rfl rfl (Nat.le_of_ble_eq_true rfl) (y_b_X5_hasBit w lane (place / 4) (by omega) (by omega)) (go_if_neT (tgt := 42) (eD DX5_nearestTime 21 rfl) rfl (eI_pI _) (pI1 h2) (?_))))
      exact go_iload (eD DX5_nearestTime 24 rfl) rfl (go_istore (eD DX5_nearestTime 25 rfl) (by decide) (go_iconst (eD DX5_nearestTime 26 rfl) (go_istore (eD DX5_nearestTime 27 rfl) (by decide) (Go.pick [4, 5, 6, 7, 2, 1, 0] rfl (k4 h1 h2)))))
    · refine go_if_eqT (tgt := 40) (eD DX5_nearestTime 17 rfl) rfl (eI_pI _) (pI0 h2) ?_
      rw [(k5 h1 h2).1, (k5 h1 h2).2]
      exact go_iconst (eD DX5_nearestTime 22 rfl) (go_iret (eD DX5_nearestTime 23 rfl) rfl)
set_option maxHeartbeats 4000000 in
set_option maxRecDepth 20000 in
theorem tX5_nearestTime_49 {r : Option eV} {w9 : eW} (w : eW) (lane place ahead behind before en k : Int) (hb : 0 ≤ lane ∧ lane < 16384) (hp : 0 ≤ place ∧ place ≤ 56) (he : -20 ≤ en ∧ en ≤ 40) (hk : 0 ≤ k ∧ k ≤ 14) (k1 : k < 14 → hb14 lane en → Go mX5_nearestTime 49 [(0, (0, lane)), (1, (0, place)), (2, (0, ahead)), (3, (0, behind)), (5, (0, before)), (6, (0, en + 1)), (7, (0, k + 1))] [] w r w9) (k2 : k < 14 → ¬ (hb14 lane en) → Go mX5_nearestTime 81 [(0, (0, lane)), (1, (0, place)), (2, (0, ahead)), (3, (0, behind)), (6, (0, en)), (7, (0, before)), (8, (0, 0))] [] w r w9) (k3 : ¬ (k < 14) → Go mX5_nearestTime 81 [(0, (0, lane)), (1, (0, place)), (2, (0, ahead)), (3, (0, behind)), (6, (0, en)), (7, (0, before)), (8, (0, 0))] [] w r w9) : Go mX5_nearestTime 49 [(0, (0, lane)), (1, (0, place)), (2, (0, ahead)), (3, (0, behind)), (5, (0, before)), (6, (0, en)), (7, (0, k))] [] w r w9 := by
  refine go_iload (eD DX5_nearestTime 28 rfl) rfl (go_bipush (eD DX5_nearestTime 29 rfl) (by decide) (?_))
  by_cases h1 : k < 14
  · refine go_icmp_geF (tgt := 74) (eD DX5_nearestTime 30 rfl) rfl (by omega) (by decide) (Int.not_le.mpr h1) ?_
    refine go_iload_n (eD DX5_nearestTime 31 rfl) rfl rfl (go_iload (eD DX5_nearestTime 32 rfl) rfl (go_callS [(0, lane), (0, en)] (eD DX5_nearestTime 33 rfl) ⟨eMem 3 166 rfl rfl, sX5_hasBit⟩ ⟨Nat.le_of_ble_eq_true rfl, Nat.le_of_ble_eq_true rfl⟩ rfl rfl (Nat.le_of_ble_eq_true rfl) (y_b_X5_hasBit w lane en (by omega) (by omega)) (?_)))
    by_cases h2 : hb14 lane en
    · refine go_if_eqF (tgt := 74) (eD DX5_nearestTime 34 rfl) rfl (eI_pI _) (pI1 h2) ?_
      exact go_iinc (eD DX5_nearestTime 35 rfl) rfl (by decide) (go_iinc (eD DX5_nearestTime 36 rfl) rfl (by decide) (go_goto (tgt := 49) (eD DX5_nearestTime 37 rfl) rfl (Go.pick [2, 3, 4, 5, 6, 1, 0] rfl (k1 h1 h2))))
    · refine go_if_eqT (tgt := 74) (eD DX5_nearestTime 34 rfl) rfl (eI_pI _) (pI0 h2) ?_
      exact go_iload (eD DX5_nearestTime 38 rfl) rfl (go_istore (eD DX5_nearestTime 39 rfl) (by decide) (go_iconst (eD DX5_nearestTime 40 rfl) (go_istore (eD DX5_nearestTime 41 rfl) (by decide) (Go.pick [2, 3, 4, 5, 7, 1, 0] rfl (k2 h1 h2)))))
  · refine go_icmp_geT (tgt := 74) (eD DX5_nearestTime 30 rfl) rfl (by omega) (by decide) (Int.not_lt.mp h1) ?_
    exact go_iload (eD DX5_nearestTime 38 rfl) rfl (go_istore (eD DX5_nearestTime 39 rfl) (by decide) (go_iconst (eD DX5_nearestTime 40 rfl) (go_istore (eD DX5_nearestTime 41 rfl) (by decide) (Go.pick [2, 3, 4, 5, 7, 1, 0] rfl (k3 h1)))))
set_option maxHeartbeats 4000000 in
set_option maxRecDepth 20000 in
theorem tX5_nearestTime_81 {r : Option eV} {w9 : eW} (w : eW) (lane place ahead behind en st k : Int) (hb : 0 ≤ lane ∧ lane < 16384) (hp : 0 ≤ place ∧ place ≤ 56) (he : -40 ≤ st ∧ st ≤ 40) (hk : 0 ≤ k ∧ k ≤ 14) (hm1 : eI ((4 * en - place) * ahead)) (hm2 : eI ((place - 4 * (st + 1)) * behind)) (k1 : k < 14 → hb14 lane st → Go mX5_nearestTime 81 [(0, (0, lane)), (1, (0, place)), (2, (0, ahead)), (3, (0, behind)), (6, (0, en)), (7, (0, st + (-1))), (8, (0, k + 1))] [] w r w9) (k2 : k < 14 → ¬ (hb14 lane st) → r = some (0, min (((4 * en) - place) * ahead) ((place - (4 * (st + 1))) * behind)) ∧ w9 = w) (k3 : ¬ (k < 14) → r = some (0, min (((4 * en) - place) * ahead) ((place - (4 * (st + 1))) * behind)) ∧ w9 = w) : Go mX5_nearestTime 81 [(0, (0, lane)), (1, (0, place)), (2, (0, ahead)), (3, (0, behind)), (6, (0, en)), (7, (0, st)), (8, (0, k))] [] w r w9 := by
  refine go_iload (eD DX5_nearestTime 42 rfl) rfl (go_bipush (eD DX5_nearestTime 43 rfl) (by decide) (?_))
  by_cases h1 : k < 14
  · refine go_icmp_geF (tgt := 106) (eD DX5_nearestTime 44 rfl) rfl (by omega) (by decide) (Int.not_le.mpr h1) ?_
    refine go_iload_n (eD DX5_nearestTime 45 rfl) rfl rfl (go_iload (eD DX5_nearestTime 46 rfl) rfl (go_callS [(0, lane), (0, st)] (eD DX5_nearestTime 47 rfl) ⟨eMem 3 166 rfl rfl, sX5_hasBit⟩ ⟨Nat.le_of_ble_eq_true rfl, Nat.le_of_ble_eq_true rfl⟩ rfl rfl (Nat.le_of_ble_eq_true rfl) (y_b_X5_hasBit w lane st (by omega) (by omega)) (?_)))
    by_cases h2 : hb14 lane st
    · refine go_if_eqF (tgt := 106) (eD DX5_nearestTime 48 rfl) rfl (eI_pI _) (pI1 h2) ?_
      exact go_iinc (eD DX5_nearestTime 49 rfl) rfl (by decide) (go_iinc (eD DX5_nearestTime 50 rfl) rfl (by decide) (go_goto (tgt := 81) (eD DX5_nearestTime 51 rfl) rfl (Go.pick [2, 3, 4, 5, 6, 1, 0] rfl (k1 h1 h2))))
    · refine go_if_eqT (tgt := 106) (eD DX5_nearestTime 48 rfl) rfl (eI_pI _) (pI0 h2) ?_
      rw [(k2 h1 h2).1, (k2 h1 h2).2]
      exact go_iconst (eD DX5_nearestTime 52 rfl) (go_iload (eD DX5_nearestTime 53 rfl) rfl (go_imul (eD DX5_nearestTime 54 rfl) (go_iload_n (eD DX5_nearestTime 55 rfl) rfl rfl (go_isub (eD DX5_nearestTime 56 rfl) (go_iload_n (eD DX5_nearestTime 57 rfl) rfl rfl (go_imul (eD DX5_nearestTime 58 rfl) (go_iload_n (eD DX5_nearestTime 59 rfl) rfl rfl (go_iconst (eD DX5_nearestTime 60 rfl) (go_iload (eD DX5_nearestTime 61 rfl) rfl (go_iconst (eD DX5_nearestTime 62 rfl) (go_iadd (eD DX5_nearestTime 63 rfl) (go_imul (eD DX5_nearestTime 64 rfl) (go_isub (eD DX5_nearestTime 65 rfl) (go_iload_n (eD DX5_nearestTime 66 rfl) rfl rfl (go_imul (eD DX5_nearestTime 67 rfl) (go_mmin (eD DX5_nearestTime 68 rfl) (eMem 3 169 rfl rfl) ⟨Nat.le_of_ble_eq_true rfl, Nat.le_of_ble_eq_true rfl⟩ (by omega) (by omega) (go_iret (eD DX5_nearestTime 69 rfl) rfl)))))))))))))))))
  · refine go_icmp_geT (tgt := 106) (eD DX5_nearestTime 44 rfl) rfl (by omega) (by decide) (Int.not_lt.mp h1) ?_
    rw [(k3 h1).1, (k3 h1).2]
    exact go_iconst (eD DX5_nearestTime 52 rfl) (go_iload (eD DX5_nearestTime 53 rfl) rfl (go_imul (eD DX5_nearestTime 54 rfl) (go_iload_n (eD DX5_nearestTime 55 rfl) rfl rfl (go_isub (eD DX5_nearestTime 56 rfl) (go_iload_n (eD DX5_nearestTime 57 rfl) rfl rfl (go_imul (eD DX5_nearestTime 58 rfl) (go_iload_n (eD DX5_nearestTime 59 rfl) rfl rfl (go_iconst (eD DX5_nearestTime 60 rfl) (go_iload (eD DX5_nearestTime 61 rfl) rfl (go_iconst (eD DX5_nearestTime 62 rfl) (go_iadd (eD DX5_nearestTime 63 rfl) (go_imul (eD DX5_nearestTime 64 rfl) (go_isub (eD DX5_nearestTime 65 rfl) (go_iload_n (eD DX5_nearestTime 66 rfl) rfl rfl (go_imul (eD DX5_nearestTime 67 rfl) (go_mmin (eD DX5_nearestTime 68 rfl) (eMem 3 169 rfl rfl) ⟨Nat.le_of_ble_eq_true rfl, Nat.le_of_ble_eq_true rfl⟩ (by omega) (by omega) (go_iret (eD DX5_nearestTime 69 rfl) rfl)))))))))))))))))
/-- along a lane: the time from a place to a cell of it -/
def n1 (place ahead behind i : Int) : Int := max (if 0 < 4 * i - place then (4 * i - place) * ahead else 0) (if 0 < place - 4 * (i + 1) then (place - 4 * (i + 1)) * behind else 0)
/-- the least time to a cell of the lane that isn't inside -/
def isN (lane place ahead behind t : Int) : Prop := (∃ i, -1 ≤ i ∧ i ≤ 14 ∧ ¬ hb14 lane i ∧ n1 place ahead behind i = t) ∧ ∀ i, ¬ hb14 lane i → t ≤ n1 place ahead behind i
theorem n1_0 (place : Int) {ahead behind : Int} (ha : 0 ≤ ahead) (hb : 0 ≤ behind) (i : Int) : 0 ≤ n1 place ahead behind i := by
  unfold n1
  have : 0 ≤ (if 0 < 4 * i - place then (4 * i - place) * ahead else 0) := by
    split
    · exact Int.mul_nonneg (by omega) ha
    · exact Int.le_refl _
  omega
