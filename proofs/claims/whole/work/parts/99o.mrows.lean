/-! the model's parser: rows -/
def wX8_flaw (w : eW) (k : Int) : eW := if 0 < (w 33 7) then w else (eU (eU w 33 7 k) 33 8 (w 33 10))
set_option maxRecDepth 20000 in
theorem zX8_flaw (w : eW) (k : Int) (hf : eI (w 33 7)) : Cal mX8_flaw [eR 33, (0, k)] w none (wX8_flaw w k) := by
  unfold wX8_flaw
  refine Cal.of (by decide +kernel) (Nat.le_of_ble_eq_true rfl) ?_
  show Go _ 0 [(0, eR 33), (1, (0, k))] [] _ _ _
  refine go_aload_n (eD DX8_flaw 0 rfl) rfl rfl (go_getI (kz := 7) (eD DX8_flaw 1 rfl) fX8_104 (by decide) rfl rfl rfl (?_))
  by_cases h1 : 0 < (w 33 7)
  · refine go_if_leF (tgt := 8) (eD DX8_flaw 2 rfl) rfl (show eI (w 33 7) from by omega) (Int.not_le.mpr h1) ?_
    simp only [if_pos h1]
    exact go_vret (eD DX8_flaw 3 rfl) rfl
  · refine go_if_leT (tgt := 8) (eD DX8_flaw 2 rfl) rfl (show eI (w 33 7) from by omega) (Int.not_lt.mp h1) ?_
    simp only [if_neg h1]
    exact go_aload_n (eD DX8_flaw 4 rfl) rfl rfl (go_iload_n (eD DX8_flaw 5 rfl) rfl rfl (go_putI (kz := 7) (eD DX8_flaw 6 rfl) fX8_104 (by decide) rfl rfl (fun q h => by cases h; exact ⟨rfl, rfl⟩) rfl (go_aload_n (eD DX8_flaw 7 rfl) rfl rfl (go_aload_n (eD DX8_flaw 8 rfl) rfl rfl (go_getI (kz := 10) (eD DX8_flaw 9 rfl) fX8_107 (by decide) rfl rfl rfl (go_putI (kz := 8) (eD DX8_flaw 10 rfl) fX8_110 (by decide) rfl rfl (fun q h => by cases h; exact ⟨rfl, rfl⟩) rfl (go_vret (eD DX8_flaw 11 rfl) rfl)))))))
def rX8_isLetterAt (w : eW) (p : Int) : Int := if p < (w 33 5) then (if 97 ≤ (w 34 p) ∧ (w 34 p) ≤ 122 then 1 else 0) else 0
set_option maxRecDepth 20000 in
theorem zX8_isLetterAt (w : eW) (p : Int) (hp : eI p) (hn : 0 ≤ w 33 5 ∧ w 33 5 ≤ 400) (hp0 : 0 ≤ p) (ht : eI (w 34 p)) : Cal mX8_isLetterAt [eR 33, (0, p)] w (some (0, rX8_isLetterAt w p)) w := by
  unfold rX8_isLetterAt
  refine Cal.of (by decide +kernel) (Nat.le_of_ble_eq_true rfl) ?_
  show Go _ 0 [(0, eR 33), (1, (0, p))] [] _ _ _
  refine go_iload_n (eD DX8_isLetterAt 0 rfl) rfl rfl (go_aload_n (eD DX8_isLetterAt 1 rfl) rfl rfl (go_getI (kz := 5) (eD DX8_isLetterAt 2 rfl) fX8_113 (by decide) rfl rfl rfl (?_)))
  by_cases h1 : p < (w 33 5)
  · refine go_icmp_geF (tgt := 28) (eD DX8_isLetterAt 3 rfl) rfl (by omega) (show eI (w 33 5) from by omega) (Int.not_le.mpr h1) ?_
    refine go_aload_n (eD DX8_isLetterAt 4 rfl) rfl rfl (go_getR (t := 34) (eD DX8_isLetterAt 5 rfl) fX8_13 (by decide) rfl ⟨rfl, rfl⟩ (go_iload_n (eD DX8_isLetterAt 6 rfl) rfl rfl (go_iald (n := 400) (eD DX8_isLetterAt 7 rfl) (by decide) rfl (by omega) (go_bipush (eD DX8_isLetterAt 8 rfl) (by decide) (go_bipush (eD DX8_isLetterAt 9 rfl) (by decide) (go_callS [(0, w 34 p), (0, 97), (0, 122)] (eD DX8_isLetterAt 10 rfl) ⟨eMem 5 230 rfl rfl, sX8_in⟩ ⟨Nat.le_of_ble_eq_true rfl, Nat.le_of_ble_eq_true rfl⟩ rfl rfl (Nat.le_of_ble_eq_true rfl) (y_b_X8_in w (w 34 p) 97 122 (show eI (w 34 p) from by omega) (by decide) (by decide) ) (?_)))))))
    by_cases h2 : 97 ≤ (w 34 p) ∧ (w 34 p) ≤ 122
    · refine go_if_eqF (tgt := 28) (eD DX8_isLetterAt 11 rfl) rfl (eI_pI _) (pI1 h2) ?_
      simp only [if_pos h1, if_pos h2]
      exact go_iconst (eD DX8_isLetterAt 12 rfl) (go_goto (tgt := 29) (eD DX8_isLetterAt 13 rfl) rfl (go_zret (eD DX8_isLetterAt 15 rfl) rfl (by decide)))
    · refine go_if_eqT (tgt := 28) (eD DX8_isLetterAt 11 rfl) rfl (eI_pI _) (pI0 h2) ?_
      simp only [if_pos h1, if_neg h2]
      exact go_iconst (eD DX8_isLetterAt 14 rfl) (go_zret (eD DX8_isLetterAt 15 rfl) rfl (by decide))
  · refine go_icmp_geT (tgt := 28) (eD DX8_isLetterAt 3 rfl) rfl (by omega) (show eI (w 33 5) from by omega) (Int.not_lt.mp h1) ?_
    simp only [if_neg h1]
    exact go_iconst (eD DX8_isLetterAt 14 rfl) (go_zret (eD DX8_isLetterAt 15 rfl) rfl (by decide))
theorem y_b_X8_isLetterAt (w : eW) (p : Int) (hp : eI p) (hn : 0 ≤ w 33 5 ∧ w 33 5 ≤ 400) (hp0 : 0 ≤ p) (ht : eI (w 34 p)) : Cal mX8_isLetterAt [eR 33, (0, p)] w (some (0, if p < (w 33 5) ∧ 97 ≤ w 34 p ∧ w 34 p ≤ 122 then 1 else 0)) w := by
  refine Cal.as (zX8_isLetterAt w p hp hn hp0 ht) ?_ rfl
  unfold rX8_isLetterAt
  congr 2
  (repeat' split) <;> omega
def rX8_isDigitAt (w : eW) (p : Int) : Int := if p < (w 33 5) then (if 48 ≤ (w 34 p) ∧ (w 34 p) ≤ 57 then 1 else 0) else 0
set_option maxRecDepth 20000 in
theorem zX8_isDigitAt (w : eW) (p : Int) (hp : eI p) (hn : 0 ≤ w 33 5 ∧ w 33 5 ≤ 400) (hp0 : 0 ≤ p) (ht : eI (w 34 p)) : Cal mX8_isDigitAt [eR 33, (0, p)] w (some (0, rX8_isDigitAt w p)) w := by
  unfold rX8_isDigitAt
  refine Cal.of (by decide +kernel) (Nat.le_of_ble_eq_true rfl) ?_
  show Go _ 0 [(0, eR 33), (1, (0, p))] [] _ _ _
  refine go_iload_n (eD DX8_isDigitAt 0 rfl) rfl rfl (go_aload_n (eD DX8_isDigitAt 1 rfl) rfl rfl (go_getI (kz := 5) (eD DX8_isDigitAt 2 rfl) fX8_113 (by decide) rfl rfl rfl (?_)))
  by_cases h1 : p < (w 33 5)
  · refine go_icmp_geF (tgt := 28) (eD DX8_isDigitAt 3 rfl) rfl (by omega) (show eI (w 33 5) from by omega) (Int.not_le.mpr h1) ?_
    refine go_aload_n (eD DX8_isDigitAt 4 rfl) rfl rfl (go_getR (t := 34) (eD DX8_isDigitAt 5 rfl) fX8_13 (by decide) rfl ⟨rfl, rfl⟩ (go_iload_n (eD DX8_isDigitAt 6 rfl) rfl rfl (go_iald (n := 400) (eD DX8_isDigitAt 7 rfl) (by decide) rfl (by omega) (go_bipush (eD DX8_isDigitAt 8 rfl) (by decide) (go_bipush (eD DX8_isDigitAt 9 rfl) (by decide) (go_callS [(0, w 34 p), (0, 48), (0, 57)] (eD DX8_isDigitAt 10 rfl) ⟨eMem 5 230 rfl rfl, sX8_in⟩ ⟨Nat.le_of_ble_eq_true rfl, Nat.le_of_ble_eq_true rfl⟩ rfl rfl (Nat.le_of_ble_eq_true rfl) (y_b_X8_in w (w 34 p) 48 57 (show eI (w 34 p) from by omega) (by decide) (by decide) ) (?_)))))))
    by_cases h2 : 48 ≤ (w 34 p) ∧ (w 34 p) ≤ 57
    · refine go_if_eqF (tgt := 28) (eD DX8_isDigitAt 11 rfl) rfl (eI_pI _) (pI1 h2) ?_
      simp only [if_pos h1, if_pos h2]
      exact go_iconst (eD DX8_isDigitAt 12 rfl) (go_goto (tgt := 29) (eD DX8_isDigitAt 13 rfl) rfl (go_zret (eD DX8_isDigitAt 15 rfl) rfl (by decide)))
    · refine go_if_eqT (tgt := 28) (eD DX8_isDigitAt 11 rfl) rfl (eI_pI _) (pI0 h2) ?_
      simp only [if_pos h1, if_neg h2]
      exact go_iconst (eD DX8_isDigitAt 14 rfl) (go_zret (eD DX8_isDigitAt 15 rfl) rfl (by decide))
  · refine go_icmp_geT (tgt := 28) (eD DX8_isDigitAt 3 rfl) rfl (by omega) (show eI (w 33 5) from by omega) (Int.not_lt.mp h1) ?_
    simp only [if_neg h1]
    exact go_iconst (eD DX8_isDigitAt 14 rfl) (go_zret (eD DX8_isDigitAt 15 rfl) rfl (by decide))
theorem y_b_X8_isDigitAt (w : eW) (p : Int) (hp : eI p) (hn : 0 ≤ w 33 5 ∧ w 33 5 ≤ 400) (hp0 : 0 ≤ p) (ht : eI (w 34 p)) : Cal mX8_isDigitAt [eR 33, (0, p)] w (some (0, if p < (w 33 5) ∧ 48 ≤ w 34 p ∧ w 34 p ≤ 57 then 1 else 0)) w := by
  refine Cal.as (zX8_isDigitAt w p hp hn hp0 ht) ?_ rfl
  unfold rX8_isDigitAt
  congr 2
  (repeat' split) <;> omega
set_option maxHeartbeats 4000000 in
set_option maxRecDepth 20000 in
theorem tX8_goOn_0 {r : Option eV} {w9 : eW} (w : eW) (hf : eI (w 33 7)) (k1 : 0 < (w 33 7) → r = none ∧ w9 = w) (k2 : ¬ (0 < (w 33 7)) → Go mX8_goOn 8 [(0, eR 33)] [] w r w9) : Go mX8_goOn 0 [(0, eR 33)] [] w r w9 := by
  refine go_aload_n (eD DX8_goOn 0 rfl) rfl rfl (go_getI (kz := 7) (eD DX8_goOn 1 rfl) fX8_104 (by decide) rfl rfl rfl (?_))
  by_cases h1 : 0 < (w 33 7)
  · refine go_if_leF (tgt := 8) (eD DX8_goOn 2 rfl) rfl (show eI (w 33 7) from by omega) (Int.not_le.mpr h1) ?_
    rw [(k1 h1).1, (k1 h1).2]
    exact go_vret (eD DX8_goOn 3 rfl) rfl
  · refine go_if_leT (tgt := 8) (eD DX8_goOn 2 rfl) rfl (show eI (w 33 7) from by omega) (Int.not_lt.mp h1) ?_
    exact Go.pick [0] rfl (k2 h1)
theorem y_goOnF (w : eW) (h : 1 ≤ w 33 7 ∧ w 33 7 ≤ 5) : Cal mX8_goOn [eR 33] w none w := by
  refine Cal.of (by decide +kernel) (Nat.le_of_ble_eq_true rfl) ?_
  apply tX8_goOn_0 w (by omega)
  · intro _; exact ⟨rfl, rfl⟩
  · intro z; exfalso; omega
set_option maxHeartbeats 4000000 in
set_option maxRecDepth 20000 in
theorem tX8_goOn_8 {r : Option eV} {w9 : eW} (w : eW) (hn : 0 ≤ w 33 5 ∧ w 33 5 ≤ 400) (hs : 0 ≤ w 33 6 ∧ w 33 6 ≤ w 33 5) (ht : eI (w 34 (w 33 6))) (k1 : (w 33 6) < (w 33 5) → (w 34 (w 33 6)) = 32 → Go mX8_goOn 8 [(0, eR 33)] [] (eU w 33 6 ((w 33 6) + 1)) r w9) (k2 : (w 33 6) < (w 33 5) → ¬ ((w 34 (w 33 6)) = 32) → Go mX8_goOn 46 [(0, eR 33)] [] w r w9) (k3 : ¬ ((w 33 6) < (w 33 5)) → Go mX8_goOn 46 [(0, eR 33)] [] w r w9) : Go mX8_goOn 8 [(0, eR 33)] [] w r w9 := by
  refine go_aload_n (eD DX8_goOn 4 rfl) rfl rfl (go_getI (kz := 6) (eD DX8_goOn 5 rfl) fX8_120 (by decide) rfl rfl rfl (go_aload_n (eD DX8_goOn 6 rfl) rfl rfl (go_getI (kz := 5) (eD DX8_goOn 7 rfl) fX8_113 (by decide) rfl rfl rfl (?_))))
  by_cases h1 : (w 33 6) < (w 33 5)
  · refine go_icmp_geF (tgt := 46) (eD DX8_goOn 8 rfl) rfl (show eI (w 33 6) from by omega) (show eI (w 33 5) from by omega) (Int.not_le.mpr h1) ?_
    refine go_aload_n (eD DX8_goOn 9 rfl) rfl rfl (go_getR (t := 34) (eD DX8_goOn 10 rfl) fX8_13 (by decide) rfl ⟨rfl, rfl⟩ (go_aload_n (eD DX8_goOn 11 rfl) rfl rfl (go_getI (kz := 6) (eD DX8_goOn 12 rfl) fX8_120 (by decide) rfl rfl rfl (go_iald (n := 400) (eD DX8_goOn 13 rfl) (by decide) rfl (show 0 ≤ (w 33 6) ∧ (w 33 6) < 400 from by omega) (go_bipush (eD DX8_goOn 14 rfl) (by decide) (?_))))))
    by_cases h2 : (w 34 (w 33 6)) = 32
    · refine go_icmp_neF (tgt := 46) (eD DX8_goOn 15 rfl) rfl (show eI (w 34 (w 33 6)) from by omega) (by decide) (not_not_intro h2) ?_
      exact go_aload_n (eD DX8_goOn 16 rfl) rfl rfl (go_dup (eD DX8_goOn 17 rfl) (by decide) (go_getI (kz := 6) (eD DX8_goOn 18 rfl) fX8_120 (by decide) rfl rfl rfl (go_iconst (eD DX8_goOn 19 rfl) (go_iadd (eD DX8_goOn 20 rfl) (go_putI (kz := 6) (eD DX8_goOn 21 rfl) fX8_120 (by decide) rfl rfl (fun q h => by cases h; exact ⟨rfl, rfl⟩) rfl (go_goto (tgt := 8) (eD DX8_goOn 22 rfl) rfl (Go.pick [0] rfl (k1 h1 h2))))))))
    · refine go_icmp_neT (tgt := 46) (eD DX8_goOn 15 rfl) rfl (show eI (w 34 (w 33 6)) from by omega) (by decide) h2 ?_
      exact Go.pick [0] rfl (k2 h1 h2)
  · refine go_icmp_geT (tgt := 46) (eD DX8_goOn 8 rfl) rfl (show eI (w 33 6) from by omega) (show eI (w 33 5) from by omega) (Int.not_lt.mp h1) ?_
    exact Go.pick [0] rfl (k3 h1)
set_option maxHeartbeats 4000000 in
set_option maxRecDepth 20000 in
theorem tX8_goOnE_46 {r : Option eV} {w9 : eW} (w : eW) (hn : 0 ≤ w 33 5 ∧ w 33 5 ≤ 400) (hs : w 33 6 = w 33 5) (k1 : r = none ∧ w9 = (eU (eU w 33 10 (w 33 6)) 33 9 1)) : Go mX8_goOn 46 [(0, eR 33)] [] w r w9 := by
  have a1 : (w 33 6) = (w 33 5) := by omega
  refine go_aload_n (eD DX8_goOn 23 rfl) rfl rfl (go_aload_n (eD DX8_goOn 24 rfl) rfl rfl (go_getI (kz := 6) (eD DX8_goOn 25 rfl) fX8_120 (by decide) rfl rfl rfl (go_putI (kz := 10) (eD DX8_goOn 26 rfl) fX8_107 (by decide) rfl rfl (fun q h => by cases h; exact ⟨rfl, rfl⟩) rfl (go_aload_n (eD DX8_goOn 27 rfl) rfl rfl (go_getI (kz := 6) (eD DX8_goOn 28 rfl) fX8_120 (by decide) rfl rfl rfl (go_aload_n (eD DX8_goOn 29 rfl) rfl rfl (go_getI (kz := 5) (eD DX8_goOn 30 rfl) fX8_113 (by decide) rfl rfl rfl (go_icmp_neF (tgt := 73) (eD DX8_goOn 31 rfl) rfl (show eI (w 33 6) from by omega) (show eI (w 33 5) from by omega) (not_not_intro a1) (?_)))))))))
  rw [(k1).1, (k1).2]
  exact go_aload_n (eD DX8_goOn 32 rfl) rfl rfl (go_iconst (eD DX8_goOn 33 rfl) (go_putI (kz := 9) (eD DX8_goOn 34 rfl) fX8_123 (by decide) rfl rfl (fun q h => by cases h; exact ⟨rfl, rfl⟩) rfl (go_goto (tgt := 343) (eD DX8_goOn 35 rfl) rfl (go_vret (eD DX8_goOn 177 rfl) rfl))))
set_option maxHeartbeats 4000000 in
set_option maxRecDepth 20000 in
theorem tX8_goOnL_46 {r : Option eV} {w9 : eW} (w : eW) (hn : 0 ≤ w 33 5 ∧ w 33 5 ≤ 400) (hs : 0 ≤ w 33 6 ∧ w 33 6 < w 33 5) (ht : eI (w 34 (w 33 6))) (g1 : Cal mX8_isLetterAt [eR 33, (0, w 33 6)] (eU w 33 10 (w 33 6)) (some (0, 1)) (eU w 33 10 (w 33 6))) (k1 : Go mX8_goOn 89 [(0, eR 33)] [] (eU (eU w 33 10 (w 33 6)) 33 13 0) r w9) : Go mX8_goOn 46 [(0, eR 33)] [] w r w9 := by
  have a1 : ¬ ((w 33 6) = (w 33 5)) := by omega
  refine go_aload_n (eD DX8_goOn 23 rfl) rfl rfl (go_aload_n (eD DX8_goOn 24 rfl) rfl rfl (go_getI (kz := 6) (eD DX8_goOn 25 rfl) fX8_120 (by decide) rfl rfl rfl (go_putI (kz := 10) (eD DX8_goOn 26 rfl) fX8_107 (by decide) rfl rfl (fun q h => by cases h; exact ⟨rfl, rfl⟩) rfl (go_aload_n (eD DX8_goOn 27 rfl) rfl rfl (go_getI (kz := 6) (eD DX8_goOn 28 rfl) fX8_120 (by decide) rfl rfl rfl (go_aload_n (eD DX8_goOn 29 rfl) rfl rfl (go_getI (kz := 5) (eD DX8_goOn 30 rfl) fX8_113 (by decide) rfl rfl rfl (go_icmp_neT (tgt := 73) (eD DX8_goOn 31 rfl) rfl (show eI (w 33 6) from by omega) (show eI (w 33 5) from by omega) a1 (?_)))))))))
  refine go_aload_n (eD DX8_goOn 36 rfl) rfl rfl (go_aload_n (eD DX8_goOn 37 rfl) rfl rfl (go_getI (kz := 6) (eD DX8_goOn 38 rfl) fX8_120 (by decide) rfl rfl rfl (go_callV (ci := 8) [(0, w 33 6)] (eD DX8_goOn 39 rfl) ⟨eMem 6 1 rfl rfl, sX8_isLetterAt⟩ ⟨Nat.le_of_ble_eq_true rfl, Nat.le_of_ble_eq_true rfl⟩ (by decide) ⟨rfl, by decide, _, rfl, rfl⟩ rfl rfl (Nat.le_of_ble_eq_true rfl) g1 (go_if_eqF (tgt := 182) (eD DX8_goOn 40 rfl) rfl (by decide) (show ¬ ((1 : Int) = 0) from by decide) (?_)))))
  exact go_aload_n (eD DX8_goOn 41 rfl) rfl rfl (go_lconst (n := 0) (eD DX8_goOn 42 rfl) rfl (go_putJ (kz := 13) (eD DX8_goOn 43 rfl) fX8_130 (by decide) rfl rfl (fun q h => by cases h; exact ⟨rfl, rfl⟩) rfl (Go.pick [0] rfl (k1))))
set_option maxHeartbeats 4000000 in
set_option maxRecDepth 20000 in
theorem tX8_goOnD_46 {r : Option eV} {w9 : eW} (w : eW) (hn : 0 ≤ w 33 5 ∧ w 33 5 ≤ 400) (hs : 0 ≤ w 33 6 ∧ w 33 6 < w 33 5) (ht : eI (w 34 (w 33 6))) (g1 : Cal mX8_isLetterAt [eR 33, (0, w 33 6)] (eU w 33 10 (w 33 6)) (some (0, 0)) (eU w 33 10 (w 33 6))) (g2 : Cal mX8_isDigitAt [eR 33, (0, w 33 6)] (eU w 33 10 (w 33 6)) (some (0, 1)) (eU w 33 10 (w 33 6))) (k1 : Go mX8_goOn 198 [(0, eR 33)] [] (eU (eU w 33 10 (w 33 6)) 33 12 0) r w9) : Go mX8_goOn 46 [(0, eR 33)] [] w r w9 := by
  have a1 : ¬ ((w 33 6) = (w 33 5)) := by omega
  refine go_aload_n (eD DX8_goOn 23 rfl) rfl rfl (go_aload_n (eD DX8_goOn 24 rfl) rfl rfl (go_getI (kz := 6) (eD DX8_goOn 25 rfl) fX8_120 (by decide) rfl rfl rfl (go_putI (kz := 10) (eD DX8_goOn 26 rfl) fX8_107 (by decide) rfl rfl (fun q h => by cases h; exact ⟨rfl, rfl⟩) rfl (go_aload_n (eD DX8_goOn 27 rfl) rfl rfl (go_getI (kz := 6) (eD DX8_goOn 28 rfl) fX8_120 (by decide) rfl rfl rfl (go_aload_n (eD DX8_goOn 29 rfl) rfl rfl (go_getI (kz := 5) (eD DX8_goOn 30 rfl) fX8_113 (by decide) rfl rfl rfl (go_icmp_neT (tgt := 73) (eD DX8_goOn 31 rfl) rfl (show eI (w 33 6) from by omega) (show eI (w 33 5) from by omega) a1 (?_)))))))))
  refine go_aload_n (eD DX8_goOn 36 rfl) rfl rfl (go_aload_n (eD DX8_goOn 37 rfl) rfl rfl (go_getI (kz := 6) (eD DX8_goOn 38 rfl) fX8_120 (by decide) rfl rfl rfl (go_callV (ci := 8) [(0, w 33 6)] (eD DX8_goOn 39 rfl) ⟨eMem 6 1 rfl rfl, sX8_isLetterAt⟩ ⟨Nat.le_of_ble_eq_true rfl, Nat.le_of_ble_eq_true rfl⟩ (by decide) ⟨rfl, by decide, _, rfl, rfl⟩ rfl rfl (Nat.le_of_ble_eq_true rfl) g1 (go_if_eqT (tgt := 182) (eD DX8_goOn 40 rfl) rfl (by decide) (show (0 : Int) = 0 from by decide) (?_)))))
  refine go_aload_n (eD DX8_goOn 93 rfl) rfl rfl (go_aload_n (eD DX8_goOn 94 rfl) rfl rfl (go_getI (kz := 6) (eD DX8_goOn 95 rfl) fX8_120 (by decide) rfl rfl rfl (go_callV (ci := 8) [(0, w 33 6)] (eD DX8_goOn 96 rfl) ⟨eMem 6 7 rfl rfl, sX8_isDigitAt⟩ ⟨Nat.le_of_ble_eq_true rfl, Nat.le_of_ble_eq_true rfl⟩ (by decide) ⟨rfl, by decide, _, rfl, rfl⟩ rfl rfl (Nat.le_of_ble_eq_true rfl) g2 (go_if_eqF (tgt := 284) (eD DX8_goOn 97 rfl) rfl (by decide) (show ¬ ((1 : Int) = 0) from by decide) (?_)))))
  exact go_aload_n (eD DX8_goOn 98 rfl) rfl rfl (go_iconst (eD DX8_goOn 99 rfl) (go_putI (kz := 12) (eD DX8_goOn 100 rfl) fX8_141 (by decide) rfl rfl (fun q h => by cases h; exact ⟨rfl, rfl⟩) rfl (Go.pick [0] rfl (k1))))
set_option maxHeartbeats 4000000 in
set_option maxRecDepth 20000 in
theorem tX8_goOnS_46 {r : Option eV} {w9 : eW} (w : eW) (hn : 0 ≤ w 33 5 ∧ w 33 5 ≤ 400) (hs : 0 ≤ w 33 6 ∧ w 33 6 < w 33 5) (ht : eI (w 34 (w 33 6))) (g1 : Cal mX8_isLetterAt [eR 33, (0, w 33 6)] (eU w 33 10 (w 33 6)) (some (0, 0)) (eU w 33 10 (w 33 6))) (g2 : Cal mX8_isDigitAt [eR 33, (0, w 33 6)] (eU w 33 10 (w 33 6)) (some (0, 0)) (eU w 33 10 (w 33 6))) (k1 : (w 34 (w 33 6)) = 59 → r = none ∧ w9 = (eU (eU (eU (eU w 33 10 (w 33 6)) 33 11 (w 34 (w 33 6))) 33 9 4) 33 6 ((w 33 6) + 1))) (k2 : ¬ ((w 34 (w 33 6)) = 59) → (w 34 (w 33 6)) = 44 → r = none ∧ w9 = (eU (eU (eU (eU w 33 10 (w 33 6)) 33 11 (w 34 (w 33 6))) 33 9 4) 33 6 ((w 33 6) + 1))) (k3 : ¬ ((w 34 (w 33 6)) = 59) → ¬ ((w 34 (w 33 6)) = 44) → (w 34 (w 33 6)) = 47 → r = none ∧ w9 = (eU (eU (eU (eU w 33 10 (w 33 6)) 33 11 (w 34 (w 33 6))) 33 9 4) 33 6 ((w 33 6) + 1))) (k4 : ¬ ((w 34 (w 33 6)) = 59) → ¬ ((w 34 (w 33 6)) = 44) → ¬ ((w 34 (w 33 6)) = 47) → r = none ∧ w9 = (eU (eU (eU (eU w 33 10 (w 33 6)) 33 11 (w 34 (w 33 6))) 33 9 0) 33 6 ((w 33 6) + 1))) : Go mX8_goOn 46 [(0, eR 33)] [] w r w9 := by
  have a1 : ¬ ((w 33 6) = (w 33 5)) := by omega
  refine go_aload_n (eD DX8_goOn 23 rfl) rfl rfl (go_aload_n (eD DX8_goOn 24 rfl) rfl rfl (go_getI (kz := 6) (eD DX8_goOn 25 rfl) fX8_120 (by decide) rfl rfl rfl (go_putI (kz := 10) (eD DX8_goOn 26 rfl) fX8_107 (by decide) rfl rfl (fun q h => by cases h; exact ⟨rfl, rfl⟩) rfl (go_aload_n (eD DX8_goOn 27 rfl) rfl rfl (go_getI (kz := 6) (eD DX8_goOn 28 rfl) fX8_120 (by decide) rfl rfl rfl (go_aload_n (eD DX8_goOn 29 rfl) rfl rfl (go_getI (kz := 5) (eD DX8_goOn 30 rfl) fX8_113 (by decide) rfl rfl rfl (go_icmp_neT (tgt := 73) (eD DX8_goOn 31 rfl) rfl (show eI (w 33 6) from by omega) (show eI (w 33 5) from by omega) a1 (?_)))))))))
  refine go_aload_n (eD DX8_goOn 36 rfl) rfl rfl (go_aload_n (eD DX8_goOn 37 rfl) rfl rfl (go_getI (kz := 6) (eD DX8_goOn 38 rfl) fX8_120 (by decide) rfl rfl rfl (go_callV (ci := 8) [(0, w 33 6)] (eD DX8_goOn 39 rfl) ⟨eMem 6 1 rfl rfl, sX8_isLetterAt⟩ ⟨Nat.le_of_ble_eq_true rfl, Nat.le_of_ble_eq_true rfl⟩ (by decide) ⟨rfl, by decide, _, rfl, rfl⟩ rfl rfl (Nat.le_of_ble_eq_true rfl) g1 (go_if_eqT (tgt := 182) (eD DX8_goOn 40 rfl) rfl (by decide) (show (0 : Int) = 0 from by decide) (?_)))))
  refine go_aload_n (eD DX8_goOn 93 rfl) rfl rfl (go_aload_n (eD DX8_goOn 94 rfl) rfl rfl (go_getI (kz := 6) (eD DX8_goOn 95 rfl) fX8_120 (by decide) rfl rfl rfl (go_callV (ci := 8) [(0, w 33 6)] (eD DX8_goOn 96 rfl) ⟨eMem 6 7 rfl rfl, sX8_isDigitAt⟩ ⟨Nat.le_of_ble_eq_true rfl, Nat.le_of_ble_eq_true rfl⟩ (by decide) ⟨rfl, by decide, _, rfl, rfl⟩ rfl rfl (Nat.le_of_ble_eq_true rfl) g2 (go_if_eqT (tgt := 284) (eD DX8_goOn 97 rfl) rfl (by decide) (show (0 : Int) = 0 from by decide) (?_)))))
  refine go_aload_n (eD DX8_goOn 147 rfl) rfl rfl (go_aload_n (eD DX8_goOn 148 rfl) rfl rfl (go_getR (t := 34) (eD DX8_goOn 149 rfl) fX8_13 (by decide) rfl ⟨rfl, rfl⟩ (go_aload_n (eD DX8_goOn 150 rfl) rfl rfl (go_getI (kz := 6) (eD DX8_goOn 151 rfl) fX8_120 (by decide) rfl rfl rfl (go_iald (n := 400) (eD DX8_goOn 152 rfl) (by decide) rfl (show 0 ≤ (w 33 6) ∧ (w 33 6) < 400 from by omega) (go_putI (kz := 11) (eD DX8_goOn 153 rfl) fX8_144 (by decide) rfl rfl (fun q h => by cases h; exact ⟨rfl, rfl⟩) rfl (go_aload_n (eD DX8_goOn 154 rfl) rfl rfl (go_aload_n (eD DX8_goOn 155 rfl) rfl rfl (go_getI (kz := 11) (eD DX8_goOn 156 rfl) fX8_144 (by decide) rfl rfl rfl (go_bipush (eD DX8_goOn 157 rfl) (by decide) (?_)))))))))))
  by_cases h1 : (w 34 (w 33 6)) = 59
  · refine go_icmp_eqT (tgt := 325) (eD DX8_goOn 158 rfl) rfl (show eI (w 34 (w 33 6)) from by omega) (by decide) h1 ?_
    rw [(k1 h1).1, (k1 h1).2]
    exact go_iconst (eD DX8_goOn 167 rfl) (go_goto (tgt := 330) (eD DX8_goOn 168 rfl) rfl (go_putI (kz := 9) (eD DX8_goOn 170 rfl) fX8_123 (by decide) rfl rfl (fun q h => by cases h; exact ⟨rfl, rfl⟩) rfl (go_aload_n (eD DX8_goOn 171 rfl) rfl rfl (go_dup (eD DX8_goOn 172 rfl) (by decide) (go_getI (kz := 6) (eD DX8_goOn 173 rfl) fX8_120 (by decide) rfl rfl rfl (go_iconst (eD DX8_goOn 174 rfl) (go_iadd (eD DX8_goOn 175 rfl) (go_putI (kz := 6) (eD DX8_goOn 176 rfl) fX8_120 (by decide) rfl rfl (fun q h => by cases h; exact ⟨rfl, rfl⟩) rfl (go_vret (eD DX8_goOn 177 rfl) rfl)))))))))
  · refine go_icmp_eqF (tgt := 325) (eD DX8_goOn 158 rfl) rfl (show eI (w 34 (w 33 6)) from by omega) (by decide) h1 ?_
    refine go_aload_n (eD DX8_goOn 159 rfl) rfl rfl (go_getI (kz := 11) (eD DX8_goOn 160 rfl) fX8_144 (by decide) rfl rfl rfl (go_bipush (eD DX8_goOn 161 rfl) (by decide) (?_)))
    by_cases h2 : (w 34 (w 33 6)) = 44
    · refine go_icmp_eqT (tgt := 325) (eD DX8_goOn 162 rfl) rfl (show eI (w 34 (w 33 6)) from by omega) (by decide) h2 ?_
      rw [(k2 h1 h2).1, (k2 h1 h2).2]
      exact go_iconst (eD DX8_goOn 167 rfl) (go_goto (tgt := 330) (eD DX8_goOn 168 rfl) rfl (go_putI (kz := 9) (eD DX8_goOn 170 rfl) fX8_123 (by decide) rfl rfl (fun q h => by cases h; exact ⟨rfl, rfl⟩) rfl (go_aload_n (eD DX8_goOn 171 rfl) rfl rfl (go_dup (eD DX8_goOn 172 rfl) (by decide) (go_getI (kz := 6) (eD DX8_goOn 173 rfl) fX8_120 (by decide) rfl rfl rfl (go_iconst (eD DX8_goOn 174 rfl) (go_iadd (eD DX8_goOn 175 rfl) (go_putI (kz := 6) (eD DX8_goOn 176 rfl) fX8_120 (by decide) rfl rfl (fun q h => by cases h; exact ⟨rfl, rfl⟩) rfl (go_vret (eD DX8_goOn 177 rfl) rfl)))))))))
    · refine go_icmp_eqF (tgt := 325) (eD DX8_goOn 162 rfl) rfl (show eI (w 34 (w 33 6)) from by omega) (by decide) h2 ?_
      refine go_aload_n (eD DX8_goOn 163 rfl) rfl rfl (go_getI (kz := 11) (eD DX8_goOn 164 rfl) fX8_144 (by decide) rfl rfl rfl (go_bipush (eD DX8_goOn 165 rfl) (by decide) (?_)))
      by_cases h3 : (w 34 (w 33 6)) = 47
      · refine go_icmp_neF (tgt := 329) (eD DX8_goOn 166 rfl) rfl (show eI (w 34 (w 33 6)) from by omega) (by decide) (not_not_intro h3) ?_
        rw [(k3 h1 h2 h3).1, (k3 h1 h2 h3).2]
        exact go_iconst (eD DX8_goOn 167 rfl) (go_goto (tgt := 330) (eD DX8_goOn 168 rfl) rfl (go_putI (kz := 9) (eD DX8_goOn 170 rfl) fX8_123 (by decide) rfl rfl (fun q h => by cases h; exact ⟨rfl, rfl⟩) rfl (go_aload_n (eD DX8_goOn 171 rfl) rfl rfl (go_dup (eD DX8_goOn 172 rfl) (by decide) (go_getI (kz := 6) (eD DX8_goOn 173 rfl) fX8_120 (by decide) rfl rfl rfl (go_iconst (eD DX8_goOn 174 rfl) (go_iadd (eD DX8_goOn 175 rfl) (go_putI (kz := 6) (eD DX8_goOn 176 rfl) fX8_120 (by decide) rfl rfl (fun q h => by cases h; exact ⟨rfl, rfl⟩) rfl (go_vret (eD DX8_goOn 177 rfl) rfl)))))))))
      · refine go_icmp_neT (tgt := 329) (eD DX8_goOn 166 rfl) rfl (show eI (w 34 (w 33 6)) from by omega) (by decide) h3 ?_
        rw [(k4 h1 h2 h3).1, (k4 h1 h2 h3).2]
        exact go_iconst (eD DX8_goOn 169 rfl) (go_putI (kz := 9) (eD DX8_goOn 170 rfl) fX8_123 (by decide) rfl rfl (fun q h => by cases h; exact ⟨rfl, rfl⟩) rfl (go_aload_n (eD DX8_goOn 171 rfl) rfl rfl (go_dup (eD DX8_goOn 172 rfl) (by decide) (go_getI (kz := 6) (eD DX8_goOn 173 rfl) fX8_120 (by decide) rfl rfl rfl (go_iconst (eD DX8_goOn 174 rfl) (go_iadd (eD DX8_goOn 175 rfl) (go_putI (kz := 6) (eD DX8_goOn 176 rfl) fX8_120 (by decide) rfl rfl (fun q h => by cases h; exact ⟨rfl, rfl⟩) rfl (go_vret (eD DX8_goOn 177 rfl) rfl))))))))
set_option maxHeartbeats 4000000 in
set_option maxRecDepth 20000 in
theorem tX8_goOnL1_89 {r : Option eV} {w9 : eW} (w : eW) (hn : 0 ≤ w 33 5 ∧ w 33 5 ≤ 400) (hs : 0 ≤ w 33 6 ∧ w 33 6 < w 33 5) (ht : eI (w 34 (w 33 6))) (ha : 0 ≤ w 33 10 ∧ w 33 10 ≤ 400) (g1 : Cal mX8_isLetterAt [eR 33, (0, w 33 6)] w (some (0, 1)) w) (k1 : ((w 33 6) - (w 33 10)) < 10 → Go mX8_goOn 89 [(0, eR 33)] [] (eU (eU w 33 13 (((((w 33 13) * 32) + (w 34 (w 33 6))) - 97) + 1)) 33 6 ((w 33 6) + 1)) r w9) (k2 : ¬ (((w 33 6) - (w 33 10)) < 10) → Go mX8_goOn 89 [(0, eR 33)] [] (eU w 33 6 ((w 33 6) + 1)) r w9) : Go mX8_goOn 89 [(0, eR 33)] [] w r w9 := by
  refine go_aload_n (eD DX8_goOn 44 rfl) rfl rfl (go_aload_n (eD DX8_goOn 45 rfl) rfl rfl (go_getI (kz := 6) (eD DX8_goOn 46 rfl) fX8_120 (by decide) rfl rfl rfl (go_callV (ci := 8) [(0, w 33 6)] (eD DX8_goOn 47 rfl) ⟨eMem 6 1 rfl rfl, sX8_isLetterAt⟩ ⟨Nat.le_of_ble_eq_true rfl, Nat.le_of_ble_eq_true rfl⟩ (by decide) ⟨rfl, by decide, _, rfl, rfl⟩ rfl rfl (Nat.le_of_ble_eq_true rfl) g1 (go_if_eqF (tgt := 156) (eD DX8_goOn 48 rfl) rfl (by decide) (show ¬ ((1 : Int) = 0) from by decide) (?_)))))
  refine go_aload_n (eD DX8_goOn 49 rfl) rfl rfl (go_getI (kz := 6) (eD DX8_goOn 50 rfl) fX8_120 (by decide) rfl rfl rfl (go_aload_n (eD DX8_goOn 51 rfl) rfl rfl (go_getI (kz := 10) (eD DX8_goOn 52 rfl) fX8_107 (by decide) rfl rfl rfl (go_isub (eD DX8_goOn 53 rfl) (go_bipush (eD DX8_goOn 54 rfl) (by decide) (?_))))))
  by_cases h1 : ((w 33 6) - (w 33 10)) < 10
  · refine go_icmp_geF (tgt := 143) (eD DX8_goOn 55 rfl) rfl (show eI ((w 33 6) - (w 33 10)) from by omega) (by decide) (Int.not_le.mpr h1) ?_
    exact go_aload_n (eD DX8_goOn 56 rfl) rfl rfl (go_aload_n (eD DX8_goOn 57 rfl) rfl rfl (go_getJ (kz := 13) (eD DX8_goOn 58 rfl) fX8_130 (by decide) rfl rfl rfl (go_ldc2 (n := 32) (eD DX8_goOn 59 rfl) (eMem 6 5 rfl rfl) (go_lmul (eD DX8_goOn 60 rfl) (go_aload_n (eD DX8_goOn 61 rfl) rfl rfl (go_getR (t := 34) (eD DX8_goOn 62 rfl) fX8_13 (by decide) rfl ⟨rfl, rfl⟩ (go_aload_n (eD DX8_goOn 63 rfl) rfl rfl (go_getI (kz := 6) (eD DX8_goOn 64 rfl) fX8_120 (by decide) rfl rfl rfl (go_iald (n := 400) (eD DX8_goOn 65 rfl) (by decide) rfl (show 0 ≤ (w 33 6) ∧ (w 33 6) < 400 from by omega) (go_i2l (eD DX8_goOn 66 rfl) (show eI (w 34 (w 33 6)) from by omega) (go_ladd (eD DX8_goOn 67 rfl) (go_ldc2 (n := 97) (eD DX8_goOn 68 rfl) (eMem 6 6 rfl rfl) (go_lsub (eD DX8_goOn 69 rfl) (go_lconst (n := 1) (eD DX8_goOn 70 rfl) rfl (go_ladd (eD DX8_goOn 71 rfl) (go_putJ (kz := 13) (eD DX8_goOn 72 rfl) fX8_130 (by decide) rfl rfl (fun q h => by cases h; exact ⟨rfl, rfl⟩) rfl (go_aload_n (eD DX8_goOn 73 rfl) rfl rfl (go_dup (eD DX8_goOn 74 rfl) (by decide) (go_getI (kz := 6) (eD DX8_goOn 75 rfl) fX8_120 (by decide) rfl rfl rfl (go_iconst (eD DX8_goOn 76 rfl) (go_iadd (eD DX8_goOn 77 rfl) (go_putI (kz := 6) (eD DX8_goOn 78 rfl) fX8_120 (by decide) rfl rfl (fun q h => by cases h; exact ⟨rfl, rfl⟩) rfl (go_goto (tgt := 89) (eD DX8_goOn 79 rfl) rfl (Go.pick [0] rfl (k1 h1)))))))))))))))))))))))))
  · refine go_icmp_geT (tgt := 143) (eD DX8_goOn 55 rfl) rfl (show eI ((w 33 6) - (w 33 10)) from by omega) (by decide) (Int.not_lt.mp h1) ?_
    exact go_aload_n (eD DX8_goOn 73 rfl) rfl rfl (go_dup (eD DX8_goOn 74 rfl) (by decide) (go_getI (kz := 6) (eD DX8_goOn 75 rfl) fX8_120 (by decide) rfl rfl rfl (go_iconst (eD DX8_goOn 76 rfl) (go_iadd (eD DX8_goOn 77 rfl) (go_putI (kz := 6) (eD DX8_goOn 78 rfl) fX8_120 (by decide) rfl rfl (fun q h => by cases h; exact ⟨rfl, rfl⟩) rfl (go_goto (tgt := 89) (eD DX8_goOn 79 rfl) rfl (Go.pick [0] rfl (k2 h1))))))))
set_option maxHeartbeats 4000000 in
set_option maxRecDepth 20000 in
theorem tX8_goOnL0_89 {r : Option eV} {w9 : eW} (w : eW) (hs : 0 ≤ w 33 6 ∧ w 33 6 ≤ 400) (ha : 0 ≤ w 33 10 ∧ w 33 10 ≤ 400) (g1 : Cal mX8_isLetterAt [eR 33, (0, w 33 6)] w (some (0, 0)) w) (k1 : 14 < ((w 33 6) - (w 33 10)) → r = none ∧ w9 = (eU w 33 9 0)) (k2 : ¬ (14 < ((w 33 6) - (w 33 10))) → r = none ∧ w9 = (eU w 33 9 2)) : Go mX8_goOn 89 [(0, eR 33)] [] w r w9 := by
  refine go_aload_n (eD DX8_goOn 44 rfl) rfl rfl (go_aload_n (eD DX8_goOn 45 rfl) rfl rfl (go_getI (kz := 6) (eD DX8_goOn 46 rfl) fX8_120 (by decide) rfl rfl rfl (go_callV (ci := 8) [(0, w 33 6)] (eD DX8_goOn 47 rfl) ⟨eMem 6 1 rfl rfl, sX8_isLetterAt⟩ ⟨Nat.le_of_ble_eq_true rfl, Nat.le_of_ble_eq_true rfl⟩ (by decide) ⟨rfl, by decide, _, rfl, rfl⟩ rfl rfl (Nat.le_of_ble_eq_true rfl) g1 (go_if_eqT (tgt := 156) (eD DX8_goOn 48 rfl) rfl (by decide) (show (0 : Int) = 0 from by decide) (?_)))))
  refine go_aload_n (eD DX8_goOn 80 rfl) rfl rfl (go_aload_n (eD DX8_goOn 81 rfl) rfl rfl (go_getI (kz := 6) (eD DX8_goOn 82 rfl) fX8_120 (by decide) rfl rfl rfl (go_aload_n (eD DX8_goOn 83 rfl) rfl rfl (go_getI (kz := 10) (eD DX8_goOn 84 rfl) fX8_107 (by decide) rfl rfl rfl (go_isub (eD DX8_goOn 85 rfl) (go_bipush (eD DX8_goOn 86 rfl) (by decide) (?_)))))))
  by_cases h1 : 14 < ((w 33 6) - (w 33 10))
  · refine go_icmp_leF (tgt := 175) (eD DX8_goOn 87 rfl) rfl (show eI ((w 33 6) - (w 33 10)) from by omega) (by decide) (Int.not_le.mpr h1) ?_
    rw [(k1 h1).1, (k1 h1).2]
    exact go_iconst (eD DX8_goOn 88 rfl) (go_goto (tgt := 176) (eD DX8_goOn 89 rfl) rfl (go_putI (kz := 9) (eD DX8_goOn 91 rfl) fX8_123 (by decide) rfl rfl (fun q h => by cases h; exact ⟨rfl, rfl⟩) rfl (go_goto (tgt := 343) (eD DX8_goOn 92 rfl) rfl (go_vret (eD DX8_goOn 177 rfl) rfl))))
  · refine go_icmp_leT (tgt := 175) (eD DX8_goOn 87 rfl) rfl (show eI ((w 33 6) - (w 33 10)) from by omega) (by decide) (Int.not_lt.mp h1) ?_
    rw [(k2 h1).1, (k2 h1).2]
    exact go_iconst (eD DX8_goOn 90 rfl) (go_putI (kz := 9) (eD DX8_goOn 91 rfl) fX8_123 (by decide) rfl rfl (fun q h => by cases h; exact ⟨rfl, rfl⟩) rfl (go_goto (tgt := 343) (eD DX8_goOn 92 rfl) rfl (go_vret (eD DX8_goOn 177 rfl) rfl)))
set_option maxHeartbeats 4000000 in
set_option maxRecDepth 20000 in
theorem tX8_goOnD1_198 {r : Option eV} {w9 : eW} (w : eW) (hn : 0 ≤ w 33 5 ∧ w 33 5 ≤ 400) (hs : 0 ≤ w 33 6 ∧ w 33 6 < w 33 5) (ht : eI (w 34 (w 33 6))) (ha : 0 ≤ w 33 10 ∧ w 33 10 ≤ 400) (g1 : Cal mX8_isDigitAt [eR 33, (0, w 33 6)] w (some (0, 1)) w) (k1 : ((w 33 6) - (w 33 10)) < 4 → Go mX8_goOn 198 [(0, eR 33)] [] (eU (eU w 33 12 (((10 * (w 33 12)) + (w 34 (w 33 6))) - 48)) 33 6 ((w 33 6) + 1)) r w9) (k2 : ¬ (((w 33 6) - (w 33 10)) < 4) → Go mX8_goOn 198 [(0, eR 33)] [] (eU w 33 6 ((w 33 6) + 1)) r w9) : Go mX8_goOn 198 [(0, eR 33)] [] w r w9 := by
  refine go_aload_n (eD DX8_goOn 101 rfl) rfl rfl (go_aload_n (eD DX8_goOn 102 rfl) rfl rfl (go_getI (kz := 6) (eD DX8_goOn 103 rfl) fX8_120 (by decide) rfl rfl rfl (go_callV (ci := 8) [(0, w 33 6)] (eD DX8_goOn 104 rfl) ⟨eMem 6 7 rfl rfl, sX8_isDigitAt⟩ ⟨Nat.le_of_ble_eq_true rfl, Nat.le_of_ble_eq_true rfl⟩ (by decide) ⟨rfl, by decide, _, rfl, rfl⟩ rfl rfl (Nat.le_of_ble_eq_true rfl) g1 (go_if_eqF (tgt := 259) (eD DX8_goOn 105 rfl) rfl (by decide) (show ¬ ((1 : Int) = 0) from by decide) (?_)))))
  refine go_aload_n (eD DX8_goOn 106 rfl) rfl rfl (go_getI (kz := 6) (eD DX8_goOn 107 rfl) fX8_120 (by decide) rfl rfl rfl (go_aload_n (eD DX8_goOn 108 rfl) rfl rfl (go_getI (kz := 10) (eD DX8_goOn 109 rfl) fX8_107 (by decide) rfl rfl rfl (go_isub (eD DX8_goOn 110 rfl) (go_iconst (eD DX8_goOn 111 rfl) (?_))))))
  by_cases h1 : ((w 33 6) - (w 33 10)) < 4
  · refine go_icmp_geF (tgt := 246) (eD DX8_goOn 112 rfl) rfl (show eI ((w 33 6) - (w 33 10)) from by omega) (by decide) (Int.not_le.mpr h1) ?_
    exact go_aload_n (eD DX8_goOn 113 rfl) rfl rfl (go_bipush (eD DX8_goOn 114 rfl) (by decide) (go_aload_n (eD DX8_goOn 115 rfl) rfl rfl (go_getI (kz := 12) (eD DX8_goOn 116 rfl) fX8_141 (by decide) rfl rfl rfl (go_imul (eD DX8_goOn 117 rfl) (go_aload_n (eD DX8_goOn 118 rfl) rfl rfl (go_getR (t := 34) (eD DX8_goOn 119 rfl) fX8_13 (by decide) rfl ⟨rfl, rfl⟩ (go_aload_n (eD DX8_goOn 120 rfl) rfl rfl (go_getI (kz := 6) (eD DX8_goOn 121 rfl) fX8_120 (by decide) rfl rfl rfl (go_iald (n := 400) (eD DX8_goOn 122 rfl) (by decide) rfl (show 0 ≤ (w 33 6) ∧ (w 33 6) < 400 from by omega) (go_iadd (eD DX8_goOn 123 rfl) (go_bipush (eD DX8_goOn 124 rfl) (by decide) (go_isub (eD DX8_goOn 125 rfl) (go_putI (kz := 12) (eD DX8_goOn 126 rfl) fX8_141 (by decide) rfl rfl (fun q h => by cases h; exact ⟨rfl, rfl⟩) rfl (go_aload_n (eD DX8_goOn 127 rfl) rfl rfl (go_dup (eD DX8_goOn 128 rfl) (by decide) (go_getI (kz := 6) (eD DX8_goOn 129 rfl) fX8_120 (by decide) rfl rfl rfl (go_iconst (eD DX8_goOn 130 rfl) (go_iadd (eD DX8_goOn 131 rfl) (go_putI (kz := 6) (eD DX8_goOn 132 rfl) fX8_120 (by decide) rfl rfl (fun q h => by cases h; exact ⟨rfl, rfl⟩) rfl (go_goto (tgt := 198) (eD DX8_goOn 133 rfl) rfl (Go.pick [0] rfl (k1 h1))))))))))))))))))))))
  · refine go_icmp_geT (tgt := 246) (eD DX8_goOn 112 rfl) rfl (show eI ((w 33 6) - (w 33 10)) from by omega) (by decide) (Int.not_lt.mp h1) ?_
    exact go_aload_n (eD DX8_goOn 127 rfl) rfl rfl (go_dup (eD DX8_goOn 128 rfl) (by decide) (go_getI (kz := 6) (eD DX8_goOn 129 rfl) fX8_120 (by decide) rfl rfl rfl (go_iconst (eD DX8_goOn 130 rfl) (go_iadd (eD DX8_goOn 131 rfl) (go_putI (kz := 6) (eD DX8_goOn 132 rfl) fX8_120 (by decide) rfl rfl (fun q h => by cases h; exact ⟨rfl, rfl⟩) rfl (go_goto (tgt := 198) (eD DX8_goOn 133 rfl) rfl (Go.pick [0] rfl (k2 h1))))))))
set_option maxHeartbeats 4000000 in
set_option maxRecDepth 20000 in
theorem tX8_goOnD0_198 {r : Option eV} {w9 : eW} (w : eW) (hs : 0 ≤ w 33 6 ∧ w 33 6 ≤ 400) (ha : 0 ≤ w 33 10 ∧ w 33 10 ≤ 400) (g1 : Cal mX8_isDigitAt [eR 33, (0, w 33 6)] w (some (0, 0)) w) (k1 : 4 < ((w 33 6) - (w 33 10)) → r = none ∧ w9 = (eU w 33 9 0)) (k2 : ¬ (4 < ((w 33 6) - (w 33 10))) → r = none ∧ w9 = (eU w 33 9 3)) : Go mX8_goOn 198 [(0, eR 33)] [] w r w9 := by
  refine go_aload_n (eD DX8_goOn 101 rfl) rfl rfl (go_aload_n (eD DX8_goOn 102 rfl) rfl rfl (go_getI (kz := 6) (eD DX8_goOn 103 rfl) fX8_120 (by decide) rfl rfl rfl (go_callV (ci := 8) [(0, w 33 6)] (eD DX8_goOn 104 rfl) ⟨eMem 6 7 rfl rfl, sX8_isDigitAt⟩ ⟨Nat.le_of_ble_eq_true rfl, Nat.le_of_ble_eq_true rfl⟩ (by decide) ⟨rfl, by decide, _, rfl, rfl⟩ rfl rfl (Nat.le_of_ble_eq_true rfl) g1 (go_if_eqT (tgt := 259) (eD DX8_goOn 105 rfl) rfl (by decide) (show (0 : Int) = 0 from by decide) (?_)))))
  refine go_aload_n (eD DX8_goOn 134 rfl) rfl rfl (go_aload_n (eD DX8_goOn 135 rfl) rfl rfl (go_getI (kz := 6) (eD DX8_goOn 136 rfl) fX8_120 (by decide) rfl rfl rfl (go_aload_n (eD DX8_goOn 137 rfl) rfl rfl (go_getI (kz := 10) (eD DX8_goOn 138 rfl) fX8_107 (by decide) rfl rfl rfl (go_isub (eD DX8_goOn 139 rfl) (go_iconst (eD DX8_goOn 140 rfl) (?_)))))))
  by_cases h1 : 4 < ((w 33 6) - (w 33 10))
  · refine go_icmp_leF (tgt := 277) (eD DX8_goOn 141 rfl) rfl (show eI ((w 33 6) - (w 33 10)) from by omega) (by decide) (Int.not_le.mpr h1) ?_
    rw [(k1 h1).1, (k1 h1).2]
    exact go_iconst (eD DX8_goOn 142 rfl) (go_goto (tgt := 278) (eD DX8_goOn 143 rfl) rfl (go_putI (kz := 9) (eD DX8_goOn 145 rfl) fX8_123 (by decide) rfl rfl (fun q h => by cases h; exact ⟨rfl, rfl⟩) rfl (go_goto (tgt := 343) (eD DX8_goOn 146 rfl) rfl (go_vret (eD DX8_goOn 177 rfl) rfl))))
  · refine go_icmp_leT (tgt := 277) (eD DX8_goOn 141 rfl) rfl (show eI ((w 33 6) - (w 33 10)) from by omega) (by decide) (Int.not_lt.mp h1) ?_
    rw [(k2 h1).1, (k2 h1).2]
    exact go_iconst (eD DX8_goOn 144 rfl) (go_putI (kz := 9) (eD DX8_goOn 145 rfl) fX8_123 (by decide) rfl rfl (fun q h => by cases h; exact ⟨rfl, rfl⟩) rfl (go_goto (tgt := 343) (eD DX8_goOn 146 rfl) rfl (go_vret (eD DX8_goOn 177 rfl) rfl)))
def rX8_wordOf113 (w : eW) : Int := (((((((((((((((((((0 * 32) + 104) - 97) + 1) * 32) + 111) - 97) + 1) * 32) + 117) - 97) + 1) * 32) + 115) - 97) + 1) * 32) + 101) - 97) + 1
set_option maxRecDepth 20000 in
theorem zX8_wordOf113 (w : eW) : Cal mX8_wordOf [eR 113] w (some (1, rX8_wordOf113 w)) w := by
  unfold rX8_wordOf113
  refine Cal.of (by decide +kernel) (Nat.le_of_ble_eq_true rfl) ?_
  show Go _ 0 [(0, eR 113)] [] _ _ _
  refine go_lconst (n := 0) (eD DX8_wordOf 0 rfl) rfl (go_lstore_n (eD DX8_wordOf 1 rfl) rfl (by decide) (go_iconst (eD DX8_wordOf 2 rfl) (go_istore_n (eD DX8_wordOf 3 rfl) rfl (by decide) (go_iload_n (eD DX8_wordOf 4 rfl) rfl rfl (go_aload_n (eD DX8_wordOf 5 rfl) rfl rfl (go_callT [] (eD DX8_wordOf 6 rfl) ⟨eMem 6 20 rfl rfl, sJ0_length_8abf5⟩ ⟨Nat.le_of_ble_eq_true rfl, Nat.le_of_ble_eq_true rfl⟩ (by decide) rfl rfl rfl (Nat.le_of_ble_eq_true rfl) (y_length w 3 (by decide)) (go_icmp_geF (tgt := 37) (eD DX8_wordOf 7 rfl) rfl (by decide) (by decide) (Int.not_le.mpr (show (0 : Int) < 5 from by decide)) (?_))))))))
  refine go_lload_n (eD DX8_wordOf 8 rfl) rfl rfl (go_ldc2 (n := 32) (eD DX8_wordOf 9 rfl) (eMem 6 5 rfl rfl) (go_lmul (eD DX8_wordOf 10 rfl) (go_aload_n (eD DX8_wordOf 11 rfl) rfl rfl (go_iload_n (eD DX8_wordOf 12 rfl) rfl rfl (go_callT [(0, 0)] (eD DX8_wordOf 13 rfl) ⟨eMem 6 24 rfl rfl, sJ0_charAt_5068e⟩ ⟨Nat.le_of_ble_eq_true rfl, Nat.le_of_ble_eq_true rfl⟩ (by decide) rfl rfl rfl (Nat.le_of_ble_eq_true rfl) (y_charAt w 3 (0) (by decide) (by decide)) (go_i2l (eD DX8_wordOf 14 rfl) (by decide) (go_ladd (eD DX8_wordOf 15 rfl) (go_ldc2 (n := 97) (eD DX8_wordOf 16 rfl) (eMem 6 6 rfl rfl) (go_lsub (eD DX8_wordOf 17 rfl) (go_lconst (n := 1) (eD DX8_wordOf 18 rfl) rfl (go_ladd (eD DX8_wordOf 19 rfl) (go_lstore_n (eD DX8_wordOf 20 rfl) rfl (by decide) (go_iinc (eD DX8_wordOf 21 rfl) rfl (by decide) (go_goto (tgt := 4) (eD DX8_wordOf 22 rfl) rfl (go_iload_n (eD DX8_wordOf 4 rfl) rfl rfl (go_aload_n (eD DX8_wordOf 5 rfl) rfl rfl (go_callT [] (eD DX8_wordOf 6 rfl) ⟨eMem 6 20 rfl rfl, sJ0_length_8abf5⟩ ⟨Nat.le_of_ble_eq_true rfl, Nat.le_of_ble_eq_true rfl⟩ (by decide) rfl rfl rfl (Nat.le_of_ble_eq_true rfl) (y_length w 3 (by decide)) (go_icmp_geF (tgt := 37) (eD DX8_wordOf 7 rfl) rfl (show eI (0 + 1) from by decide) (by decide) (Int.not_le.mpr (show ((0 + 1) : Int) < 5 from by decide)) (?_)))))))))))))))))))
  refine go_lload_n (eD DX8_wordOf 8 rfl) rfl rfl (go_ldc2 (n := 32) (eD DX8_wordOf 9 rfl) (eMem 6 5 rfl rfl) (go_lmul (eD DX8_wordOf 10 rfl) (go_aload_n (eD DX8_wordOf 11 rfl) rfl rfl (go_iload_n (eD DX8_wordOf 12 rfl) rfl rfl (go_callT [(0, 0 + 1)] (eD DX8_wordOf 13 rfl) ⟨eMem 6 24 rfl rfl, sJ0_charAt_5068e⟩ ⟨Nat.le_of_ble_eq_true rfl, Nat.le_of_ble_eq_true rfl⟩ (by decide) rfl rfl rfl (Nat.le_of_ble_eq_true rfl) (y_charAt w 3 (0 + 1) (by decide) (by decide)) (go_i2l (eD DX8_wordOf 14 rfl) (by decide) (go_ladd (eD DX8_wordOf 15 rfl) (go_ldc2 (n := 97) (eD DX8_wordOf 16 rfl) (eMem 6 6 rfl rfl) (go_lsub (eD DX8_wordOf 17 rfl) (go_lconst (n := 1) (eD DX8_wordOf 18 rfl) rfl (go_ladd (eD DX8_wordOf 19 rfl) (go_lstore_n (eD DX8_wordOf 20 rfl) rfl (by decide) (go_iinc (eD DX8_wordOf 21 rfl) rfl (by decide) (go_goto (tgt := 4) (eD DX8_wordOf 22 rfl) rfl (go_iload_n (eD DX8_wordOf 4 rfl) rfl rfl (go_aload_n (eD DX8_wordOf 5 rfl) rfl rfl (go_callT [] (eD DX8_wordOf 6 rfl) ⟨eMem 6 20 rfl rfl, sJ0_length_8abf5⟩ ⟨Nat.le_of_ble_eq_true rfl, Nat.le_of_ble_eq_true rfl⟩ (by decide) rfl rfl rfl (Nat.le_of_ble_eq_true rfl) (y_length w 3 (by decide)) (go_icmp_geF (tgt := 37) (eD DX8_wordOf 7 rfl) rfl (show eI ((0 + 1) + 1) from by decide) (by decide) (Int.not_le.mpr (show (((0 + 1) + 1) : Int) < 5 from by decide)) (?_)))))))))))))))))))
  refine go_lload_n (eD DX8_wordOf 8 rfl) rfl rfl (go_ldc2 (n := 32) (eD DX8_wordOf 9 rfl) (eMem 6 5 rfl rfl) (go_lmul (eD DX8_wordOf 10 rfl) (go_aload_n (eD DX8_wordOf 11 rfl) rfl rfl (go_iload_n (eD DX8_wordOf 12 rfl) rfl rfl (go_callT [(0, (0 + 1) + 1)] (eD DX8_wordOf 13 rfl) ⟨eMem 6 24 rfl rfl, sJ0_charAt_5068e⟩ ⟨Nat.le_of_ble_eq_true rfl, Nat.le_of_ble_eq_true rfl⟩ (by decide) rfl rfl rfl (Nat.le_of_ble_eq_true rfl) (y_charAt w 3 ((0 + 1) + 1) (by decide) (by decide)) (go_i2l (eD DX8_wordOf 14 rfl) (by decide) (go_ladd (eD DX8_wordOf 15 rfl) (go_ldc2 (n := 97) (eD DX8_wordOf 16 rfl) (eMem 6 6 rfl rfl) (go_lsub (eD DX8_wordOf 17 rfl) (go_lconst (n := 1) (eD DX8_wordOf 18 rfl) rfl (go_ladd (eD DX8_wordOf 19 rfl) (go_lstore_n (eD DX8_wordOf 20 rfl) rfl (by decide) (go_iinc (eD DX8_wordOf 21 rfl) rfl (by decide) (go_goto (tgt := 4) (eD DX8_wordOf 22 rfl) rfl (go_iload_n (eD DX8_wordOf 4 rfl) rfl rfl (go_aload_n (eD DX8_wordOf 5 rfl) rfl rfl (go_callT [] (eD DX8_wordOf 6 rfl) ⟨eMem 6 20 rfl rfl, sJ0_length_8abf5⟩ ⟨Nat.le_of_ble_eq_true rfl, Nat.le_of_ble_eq_true rfl⟩ (by decide) rfl rfl rfl (Nat.le_of_ble_eq_true rfl) (y_length w 3 (by decide)) (go_icmp_geF (tgt := 37) (eD DX8_wordOf 7 rfl) rfl (show eI (((0 + 1) + 1) + 1) from by decide) (by decide) (Int.not_le.mpr (show ((((0 + 1) + 1) + 1) : Int) < 5 from by decide)) (?_)))))))))))))))))))
  refine go_lload_n (eD DX8_wordOf 8 rfl) rfl rfl (go_ldc2 (n := 32) (eD DX8_wordOf 9 rfl) (eMem 6 5 rfl rfl) (go_lmul (eD DX8_wordOf 10 rfl) (go_aload_n (eD DX8_wordOf 11 rfl) rfl rfl (go_iload_n (eD DX8_wordOf 12 rfl) rfl rfl (go_callT [(0, ((0 + 1) + 1) + 1)] (eD DX8_wordOf 13 rfl) ⟨eMem 6 24 rfl rfl, sJ0_charAt_5068e⟩ ⟨Nat.le_of_ble_eq_true rfl, Nat.le_of_ble_eq_true rfl⟩ (by decide) rfl rfl rfl (Nat.le_of_ble_eq_true rfl) (y_charAt w 3 (((0 + 1) + 1) + 1) (by decide) (by decide)) (go_i2l (eD DX8_wordOf 14 rfl) (by decide) (go_ladd (eD DX8_wordOf 15 rfl) (go_ldc2 (n := 97) (eD DX8_wordOf 16 rfl) (eMem 6 6 rfl rfl) (go_lsub (eD DX8_wordOf 17 rfl) (go_lconst (n := 1) (eD DX8_wordOf 18 rfl) rfl (go_ladd (eD DX8_wordOf 19 rfl) (go_lstore_n (eD DX8_wordOf 20 rfl) rfl (by decide) (go_iinc (eD DX8_wordOf 21 rfl) rfl (by decide) (go_goto (tgt := 4) (eD DX8_wordOf 22 rfl) rfl (go_iload_n (eD DX8_wordOf 4 rfl) rfl rfl (go_aload_n (eD DX8_wordOf 5 rfl) rfl rfl (go_callT [] (eD DX8_wordOf 6 rfl) ⟨eMem 6 20 rfl rfl, sJ0_length_8abf5⟩ ⟨Nat.le_of_ble_eq_true rfl, Nat.le_of_ble_eq_true rfl⟩ (by decide) rfl rfl rfl (Nat.le_of_ble_eq_true rfl) (y_length w 3 (by decide)) (go_icmp_geF (tgt := 37) (eD DX8_wordOf 7 rfl) rfl (show eI ((((0 + 1) + 1) + 1) + 1) from by decide) (by decide) (Int.not_le.mpr (show (((((0 + 1) + 1) + 1) + 1) : Int) < 5 from by decide)) (?_)))))))))))))))))))
  refine go_lload_n (eD DX8_wordOf 8 rfl) rfl rfl (go_ldc2 (n := 32) (eD DX8_wordOf 9 rfl) (eMem 6 5 rfl rfl) (go_lmul (eD DX8_wordOf 10 rfl) (go_aload_n (eD DX8_wordOf 11 rfl) rfl rfl (go_iload_n (eD DX8_wordOf 12 rfl) rfl rfl (go_callT [(0, (((0 + 1) + 1) + 1) + 1)] (eD DX8_wordOf 13 rfl) ⟨eMem 6 24 rfl rfl, sJ0_charAt_5068e⟩ ⟨Nat.le_of_ble_eq_true rfl, Nat.le_of_ble_eq_true rfl⟩ (by decide) rfl rfl rfl (Nat.le_of_ble_eq_true rfl) (y_charAt w 3 ((((0 + 1) + 1) + 1) + 1) (by decide) (by decide)) (go_i2l (eD DX8_wordOf 14 rfl) (by decide) (go_ladd (eD DX8_wordOf 15 rfl) (go_ldc2 (n := 97) (eD DX8_wordOf 16 rfl) (eMem 6 6 rfl rfl) (go_lsub (eD DX8_wordOf 17 rfl) (go_lconst (n := 1) (eD DX8_wordOf 18 rfl) rfl (go_ladd (eD DX8_wordOf 19 rfl) (go_lstore_n (eD DX8_wordOf 20 rfl) rfl (by decide) (go_iinc (eD DX8_wordOf 21 rfl) rfl (by decide) (go_goto (tgt := 4) (eD DX8_wordOf 22 rfl) rfl (go_iload_n (eD DX8_wordOf 4 rfl) rfl rfl (go_aload_n (eD DX8_wordOf 5 rfl) rfl rfl (go_callT [] (eD DX8_wordOf 6 rfl) ⟨eMem 6 20 rfl rfl, sJ0_length_8abf5⟩ ⟨Nat.le_of_ble_eq_true rfl, Nat.le_of_ble_eq_true rfl⟩ (by decide) rfl rfl rfl (Nat.le_of_ble_eq_true rfl) (y_length w 3 (by decide)) (go_icmp_geT (tgt := 37) (eD DX8_wordOf 7 rfl) rfl (show eI (((((0 + 1) + 1) + 1) + 1) + 1) from by decide) (by decide) (Int.not_lt.mp (show ¬ (((((((0 + 1) + 1) + 1) + 1) + 1) : Int) < 5) from by decide)) (?_)))))))))))))))))))
  exact go_lload_n (eD DX8_wordOf 23 rfl) rfl rfl (go_lret (eD DX8_wordOf 24 rfl) rfl)
theorem y_wordOf113 (w : eW) : Cal mX8_wordOf [eR 113] w (some (1, 8902245)) w := Cal.as (zX8_wordOf113 w) (by unfold rX8_wordOf113; decide) rfl
def rX8_wordOf114 (w : eW) : Int := (((((((((((((((((((0 * 32) + 115) - 97) + 1) * 32) + 112) - 97) + 1) * 32) + 101) - 97) + 1) * 32) + 101) - 97) + 1) * 32) + 100) - 97) + 1
set_option maxRecDepth 20000 in
theorem zX8_wordOf114 (w : eW) : Cal mX8_wordOf [eR 114] w (some (1, rX8_wordOf114 w)) w := by
  unfold rX8_wordOf114
  refine Cal.of (by decide +kernel) (Nat.le_of_ble_eq_true rfl) ?_
  show Go _ 0 [(0, eR 114)] [] _ _ _
  refine go_lconst (n := 0) (eD DX8_wordOf 0 rfl) rfl (go_lstore_n (eD DX8_wordOf 1 rfl) rfl (by decide) (go_iconst (eD DX8_wordOf 2 rfl) (go_istore_n (eD DX8_wordOf 3 rfl) rfl (by decide) (go_iload_n (eD DX8_wordOf 4 rfl) rfl rfl (go_aload_n (eD DX8_wordOf 5 rfl) rfl rfl (go_callT [] (eD DX8_wordOf 6 rfl) ⟨eMem 6 20 rfl rfl, sJ0_length_8abf5⟩ ⟨Nat.le_of_ble_eq_true rfl, Nat.le_of_ble_eq_true rfl⟩ (by decide) rfl rfl rfl (Nat.le_of_ble_eq_true rfl) (y_length w 4 (by decide)) (go_icmp_geF (tgt := 37) (eD DX8_wordOf 7 rfl) rfl (by decide) (by decide) (Int.not_le.mpr (show (0 : Int) < 5 from by decide)) (?_))))))))
  refine go_lload_n (eD DX8_wordOf 8 rfl) rfl rfl (go_ldc2 (n := 32) (eD DX8_wordOf 9 rfl) (eMem 6 5 rfl rfl) (go_lmul (eD DX8_wordOf 10 rfl) (go_aload_n (eD DX8_wordOf 11 rfl) rfl rfl (go_iload_n (eD DX8_wordOf 12 rfl) rfl rfl (go_callT [(0, 0)] (eD DX8_wordOf 13 rfl) ⟨eMem 6 24 rfl rfl, sJ0_charAt_5068e⟩ ⟨Nat.le_of_ble_eq_true rfl, Nat.le_of_ble_eq_true rfl⟩ (by decide) rfl rfl rfl (Nat.le_of_ble_eq_true rfl) (y_charAt w 4 (0) (by decide) (by decide)) (go_i2l (eD DX8_wordOf 14 rfl) (by decide) (go_ladd (eD DX8_wordOf 15 rfl) (go_ldc2 (n := 97) (eD DX8_wordOf 16 rfl) (eMem 6 6 rfl rfl) (go_lsub (eD DX8_wordOf 17 rfl) (go_lconst (n := 1) (eD DX8_wordOf 18 rfl) rfl (go_ladd (eD DX8_wordOf 19 rfl) (go_lstore_n (eD DX8_wordOf 20 rfl) rfl (by decide) (go_iinc (eD DX8_wordOf 21 rfl) rfl (by decide) (go_goto (tgt := 4) (eD DX8_wordOf 22 rfl) rfl (go_iload_n (eD DX8_wordOf 4 rfl) rfl rfl (go_aload_n (eD DX8_wordOf 5 rfl) rfl rfl (go_callT [] (eD DX8_wordOf 6 rfl) ⟨eMem 6 20 rfl rfl, sJ0_length_8abf5⟩ ⟨Nat.le_of_ble_eq_true rfl, Nat.le_of_ble_eq_true rfl⟩ (by decide) rfl rfl rfl (Nat.le_of_ble_eq_true rfl) (y_length w 4 (by decide)) (go_icmp_geF (tgt := 37) (eD DX8_wordOf 7 rfl) rfl (show eI (0 + 1) from by decide) (by decide) (Int.not_le.mpr (show ((0 + 1) : Int) < 5 from by decide)) (?_)))))))))))))))))))
  refine go_lload_n (eD DX8_wordOf 8 rfl) rfl rfl (go_ldc2 (n := 32) (eD DX8_wordOf 9 rfl) (eMem 6 5 rfl rfl) (go_lmul (eD DX8_wordOf 10 rfl) (go_aload_n (eD DX8_wordOf 11 rfl) rfl rfl (go_iload_n (eD DX8_wordOf 12 rfl) rfl rfl (go_callT [(0, 0 + 1)] (eD DX8_wordOf 13 rfl) ⟨eMem 6 24 rfl rfl, sJ0_charAt_5068e⟩ ⟨Nat.le_of_ble_eq_true rfl, Nat.le_of_ble_eq_true rfl⟩ (by decide) rfl rfl rfl (Nat.le_of_ble_eq_true rfl) (y_charAt w 4 (0 + 1) (by decide) (by decide)) (go_i2l (eD DX8_wordOf 14 rfl) (by decide) (go_ladd (eD DX8_wordOf 15 rfl) (go_ldc2 (n := 97) (eD DX8_wordOf 16 rfl) (eMem 6 6 rfl rfl) (go_lsub (eD DX8_wordOf 17 rfl) (go_lconst (n := 1) (eD DX8_wordOf 18 rfl) rfl (go_ladd (eD DX8_wordOf 19 rfl) (go_lstore_n (eD DX8_wordOf 20 rfl) rfl (by decide) (go_iinc (eD DX8_wordOf 21 rfl) rfl (by decide) (go_goto (tgt := 4) (eD DX8_wordOf 22 rfl) rfl (go_iload_n (eD DX8_wordOf 4 rfl) rfl rfl (go_aload_n (eD DX8_wordOf 5 rfl) rfl rfl (go_callT [] (eD DX8_wordOf 6 rfl) ⟨eMem 6 20 rfl rfl, sJ0_length_8abf5⟩ ⟨Nat.le_of_ble_eq_true rfl, Nat.le_of_ble_eq_true rfl⟩ (by decide) rfl rfl rfl (Nat.le_of_ble_eq_true rfl) (y_length w 4 (by decide)) (go_icmp_geF (tgt := 37) (eD DX8_wordOf 7 rfl) rfl (show eI ((0 + 1) + 1) from by decide) (by decide) (Int.not_le.mpr (show (((0 + 1) + 1) : Int) < 5 from by decide)) (?_)))))))))))))))))))
  refine go_lload_n (eD DX8_wordOf 8 rfl) rfl rfl (go_ldc2 (n := 32) (eD DX8_wordOf 9 rfl) (eMem 6 5 rfl rfl) (go_lmul (eD DX8_wordOf 10 rfl) (go_aload_n (eD DX8_wordOf 11 rfl) rfl rfl (go_iload_n (eD DX8_wordOf 12 rfl) rfl rfl (go_callT [(0, (0 + 1) + 1)] (eD DX8_wordOf 13 rfl) ⟨eMem 6 24 rfl rfl, sJ0_charAt_5068e⟩ ⟨Nat.le_of_ble_eq_true rfl, Nat.le_of_ble_eq_true rfl⟩ (by decide) rfl rfl rfl (Nat.le_of_ble_eq_true rfl) (y_charAt w 4 ((0 + 1) + 1) (by decide) (by decide)) (go_i2l (eD DX8_wordOf 14 rfl) (by decide) (go_ladd (eD DX8_wordOf 15 rfl) (go_ldc2 (n := 97) (eD DX8_wordOf 16 rfl) (eMem 6 6 rfl rfl) (go_lsub (eD DX8_wordOf 17 rfl) (go_lconst (n := 1) (eD DX8_wordOf 18 rfl) rfl (go_ladd (eD DX8_wordOf 19 rfl) (go_lstore_n (eD DX8_wordOf 20 rfl) rfl (by decide) (go_iinc (eD DX8_wordOf 21 rfl) rfl (by decide) (go_goto (tgt := 4) (eD DX8_wordOf 22 rfl) rfl (go_iload_n (eD DX8_wordOf 4 rfl) rfl rfl (go_aload_n (eD DX8_wordOf 5 rfl) rfl rfl (go_callT [] (eD DX8_wordOf 6 rfl) ⟨eMem 6 20 rfl rfl, sJ0_length_8abf5⟩ ⟨Nat.le_of_ble_eq_true rfl, Nat.le_of_ble_eq_true rfl⟩ (by decide) rfl rfl rfl (Nat.le_of_ble_eq_true rfl) (y_length w 4 (by decide)) (go_icmp_geF (tgt := 37) (eD DX8_wordOf 7 rfl) rfl (show eI (((0 + 1) + 1) + 1) from by decide) (by decide) (Int.not_le.mpr (show ((((0 + 1) + 1) + 1) : Int) < 5 from by decide)) (?_)))))))))))))))))))
  refine go_lload_n (eD DX8_wordOf 8 rfl) rfl rfl (go_ldc2 (n := 32) (eD DX8_wordOf 9 rfl) (eMem 6 5 rfl rfl) (go_lmul (eD DX8_wordOf 10 rfl) (go_aload_n (eD DX8_wordOf 11 rfl) rfl rfl (go_iload_n (eD DX8_wordOf 12 rfl) rfl rfl (go_callT [(0, ((0 + 1) + 1) + 1)] (eD DX8_wordOf 13 rfl) ⟨eMem 6 24 rfl rfl, sJ0_charAt_5068e⟩ ⟨Nat.le_of_ble_eq_true rfl, Nat.le_of_ble_eq_true rfl⟩ (by decide) rfl rfl rfl (Nat.le_of_ble_eq_true rfl) (y_charAt w 4 (((0 + 1) + 1) + 1) (by decide) (by decide)) (go_i2l (eD DX8_wordOf 14 rfl) (by decide) (go_ladd (eD DX8_wordOf 15 rfl) (go_ldc2 (n := 97) (eD DX8_wordOf 16 rfl) (eMem 6 6 rfl rfl) (go_lsub (eD DX8_wordOf 17 rfl) (go_lconst (n := 1) (eD DX8_wordOf 18 rfl) rfl (go_ladd (eD DX8_wordOf 19 rfl) (go_lstore_n (eD DX8_wordOf 20 rfl) rfl (by decide) (go_iinc (eD DX8_wordOf 21 rfl) rfl (by decide) (go_goto (tgt := 4) (eD DX8_wordOf 22 rfl) rfl (go_iload_n (eD DX8_wordOf 4 rfl) rfl rfl (go_aload_n (eD DX8_wordOf 5 rfl) rfl rfl (go_callT [] (eD DX8_wordOf 6 rfl) ⟨eMem 6 20 rfl rfl, sJ0_length_8abf5⟩ ⟨Nat.le_of_ble_eq_true rfl, Nat.le_of_ble_eq_true rfl⟩ (by decide) rfl rfl rfl (Nat.le_of_ble_eq_true rfl) (y_length w 4 (by decide)) (go_icmp_geF (tgt := 37) (eD DX8_wordOf 7 rfl) rfl (show eI ((((0 + 1) + 1) + 1) + 1) from by decide) (by decide) (Int.not_le.mpr (show (((((0 + 1) + 1) + 1) + 1) : Int) < 5 from by decide)) (?_)))))))))))))))))))
  refine go_lload_n (eD DX8_wordOf 8 rfl) rfl rfl (go_ldc2 (n := 32) (eD DX8_wordOf 9 rfl) (eMem 6 5 rfl rfl) (go_lmul (eD DX8_wordOf 10 rfl) (go_aload_n (eD DX8_wordOf 11 rfl) rfl rfl (go_iload_n (eD DX8_wordOf 12 rfl) rfl rfl (go_callT [(0, (((0 + 1) + 1) + 1) + 1)] (eD DX8_wordOf 13 rfl) ⟨eMem 6 24 rfl rfl, sJ0_charAt_5068e⟩ ⟨Nat.le_of_ble_eq_true rfl, Nat.le_of_ble_eq_true rfl⟩ (by decide) rfl rfl rfl (Nat.le_of_ble_eq_true rfl) (y_charAt w 4 ((((0 + 1) + 1) + 1) + 1) (by decide) (by decide)) (go_i2l (eD DX8_wordOf 14 rfl) (by decide) (go_ladd (eD DX8_wordOf 15 rfl) (go_ldc2 (n := 97) (eD DX8_wordOf 16 rfl) (eMem 6 6 rfl rfl) (go_lsub (eD DX8_wordOf 17 rfl) (go_lconst (n := 1) (eD DX8_wordOf 18 rfl) rfl (go_ladd (eD DX8_wordOf 19 rfl) (go_lstore_n (eD DX8_wordOf 20 rfl) rfl (by decide) (go_iinc (eD DX8_wordOf 21 rfl) rfl (by decide) (go_goto (tgt := 4) (eD DX8_wordOf 22 rfl) rfl (go_iload_n (eD DX8_wordOf 4 rfl) rfl rfl (go_aload_n (eD DX8_wordOf 5 rfl) rfl rfl (go_callT [] (eD DX8_wordOf 6 rfl) ⟨eMem 6 20 rfl rfl, sJ0_length_8abf5⟩ ⟨Nat.le_of_ble_eq_true rfl, Nat.le_of_ble_eq_true rfl⟩ (by decide) rfl rfl rfl (Nat.le_of_ble_eq_true rfl) (y_length w 4 (by decide)) (go_icmp_geT (tgt := 37) (eD DX8_wordOf 7 rfl) rfl (show eI (((((0 + 1) + 1) + 1) + 1) + 1) from by decide) (by decide) (Int.not_lt.mp (show ¬ (((((((0 + 1) + 1) + 1) + 1) + 1) : Int) < 5) from by decide)) (?_)))))))))))))))))))
  exact go_lload_n (eD DX8_wordOf 23 rfl) rfl rfl (go_lret (eD DX8_wordOf 24 rfl) rfl)
theorem y_wordOf114 (w : eW) : Cal mX8_wordOf [eR 114] w (some (1, 20452516)) w := Cal.as (zX8_wordOf114 w) (by unfold rX8_wordOf114; decide) rfl
def rX8_wordOf115 (w : eW) : Int := (((((((((((((((0 * 32) + 109) - 97) + 1) * 32) + 97) - 97) + 1) * 32) + 114) - 97) + 1) * 32) + 107) - 97) + 1
set_option maxRecDepth 20000 in
theorem zX8_wordOf115 (w : eW) : Cal mX8_wordOf [eR 115] w (some (1, rX8_wordOf115 w)) w := by
  unfold rX8_wordOf115
  refine Cal.of (by decide +kernel) (Nat.le_of_ble_eq_true rfl) ?_
  show Go _ 0 [(0, eR 115)] [] _ _ _
  refine go_lconst (n := 0) (eD DX8_wordOf 0 rfl) rfl (go_lstore_n (eD DX8_wordOf 1 rfl) rfl (by decide) (go_iconst (eD DX8_wordOf 2 rfl) (go_istore_n (eD DX8_wordOf 3 rfl) rfl (by decide) (go_iload_n (eD DX8_wordOf 4 rfl) rfl rfl (go_aload_n (eD DX8_wordOf 5 rfl) rfl rfl (go_callT [] (eD DX8_wordOf 6 rfl) ⟨eMem 6 20 rfl rfl, sJ0_length_8abf5⟩ ⟨Nat.le_of_ble_eq_true rfl, Nat.le_of_ble_eq_true rfl⟩ (by decide) rfl rfl rfl (Nat.le_of_ble_eq_true rfl) (y_length w 5 (by decide)) (go_icmp_geF (tgt := 37) (eD DX8_wordOf 7 rfl) rfl (by decide) (by decide) (Int.not_le.mpr (show (0 : Int) < 4 from by decide)) (?_))))))))
  refine go_lload_n (eD DX8_wordOf 8 rfl) rfl rfl (go_ldc2 (n := 32) (eD DX8_wordOf 9 rfl) (eMem 6 5 rfl rfl) (go_lmul (eD DX8_wordOf 10 rfl) (go_aload_n (eD DX8_wordOf 11 rfl) rfl rfl (go_iload_n (eD DX8_wordOf 12 rfl) rfl rfl (go_callT [(0, 0)] (eD DX8_wordOf 13 rfl) ⟨eMem 6 24 rfl rfl, sJ0_charAt_5068e⟩ ⟨Nat.le_of_ble_eq_true rfl, Nat.le_of_ble_eq_true rfl⟩ (by decide) rfl rfl rfl (Nat.le_of_ble_eq_true rfl) (y_charAt w 5 (0) (by decide) (by decide)) (go_i2l (eD DX8_wordOf 14 rfl) (by decide) (go_ladd (eD DX8_wordOf 15 rfl) (go_ldc2 (n := 97) (eD DX8_wordOf 16 rfl) (eMem 6 6 rfl rfl) (go_lsub (eD DX8_wordOf 17 rfl) (go_lconst (n := 1) (eD DX8_wordOf 18 rfl) rfl (go_ladd (eD DX8_wordOf 19 rfl) (go_lstore_n (eD DX8_wordOf 20 rfl) rfl (by decide) (go_iinc (eD DX8_wordOf 21 rfl) rfl (by decide) (go_goto (tgt := 4) (eD DX8_wordOf 22 rfl) rfl (go_iload_n (eD DX8_wordOf 4 rfl) rfl rfl (go_aload_n (eD DX8_wordOf 5 rfl) rfl rfl (go_callT [] (eD DX8_wordOf 6 rfl) ⟨eMem 6 20 rfl rfl, sJ0_length_8abf5⟩ ⟨Nat.le_of_ble_eq_true rfl, Nat.le_of_ble_eq_true rfl⟩ (by decide) rfl rfl rfl (Nat.le_of_ble_eq_true rfl) (y_length w 5 (by decide)) (go_icmp_geF (tgt := 37) (eD DX8_wordOf 7 rfl) rfl (show eI (0 + 1) from by decide) (by decide) (Int.not_le.mpr (show ((0 + 1) : Int) < 4 from by decide)) (?_)))))))))))))))))))
  refine go_lload_n (eD DX8_wordOf 8 rfl) rfl rfl (go_ldc2 (n := 32) (eD DX8_wordOf 9 rfl) (eMem 6 5 rfl rfl) (go_lmul (eD DX8_wordOf 10 rfl) (go_aload_n (eD DX8_wordOf 11 rfl) rfl rfl (go_iload_n (eD DX8_wordOf 12 rfl) rfl rfl (go_callT [(0, 0 + 1)] (eD DX8_wordOf 13 rfl) ⟨eMem 6 24 rfl rfl, sJ0_charAt_5068e⟩ ⟨Nat.le_of_ble_eq_true rfl, Nat.le_of_ble_eq_true rfl⟩ (by decide) rfl rfl rfl (Nat.le_of_ble_eq_true rfl) (y_charAt w 5 (0 + 1) (by decide) (by decide)) (go_i2l (eD DX8_wordOf 14 rfl) (by decide) (go_ladd (eD DX8_wordOf 15 rfl) (go_ldc2 (n := 97) (eD DX8_wordOf 16 rfl) (eMem 6 6 rfl rfl) (go_lsub (eD DX8_wordOf 17 rfl) (go_lconst (n := 1) (eD DX8_wordOf 18 rfl) rfl (go_ladd (eD DX8_wordOf 19 rfl) (go_lstore_n (eD DX8_wordOf 20 rfl) rfl (by decide) (go_iinc (eD DX8_wordOf 21 rfl) rfl (by decide) (go_goto (tgt := 4) (eD DX8_wordOf 22 rfl) rfl (go_iload_n (eD DX8_wordOf 4 rfl) rfl rfl (go_aload_n (eD DX8_wordOf 5 rfl) rfl rfl (go_callT [] (eD DX8_wordOf 6 rfl) ⟨eMem 6 20 rfl rfl, sJ0_length_8abf5⟩ ⟨Nat.le_of_ble_eq_true rfl, Nat.le_of_ble_eq_true rfl⟩ (by decide) rfl rfl rfl (Nat.le_of_ble_eq_true rfl) (y_length w 5 (by decide)) (go_icmp_geF (tgt := 37) (eD DX8_wordOf 7 rfl) rfl (show eI ((0 + 1) + 1) from by decide) (by decide) (Int.not_le.mpr (show (((0 + 1) + 1) : Int) < 4 from by decide)) (?_)))))))))))))))))))
  refine go_lload_n (eD DX8_wordOf 8 rfl) rfl rfl (go_ldc2 (n := 32) (eD DX8_wordOf 9 rfl) (eMem 6 5 rfl rfl) (go_lmul (eD DX8_wordOf 10 rfl) (go_aload_n (eD DX8_wordOf 11 rfl) rfl rfl (go_iload_n (eD DX8_wordOf 12 rfl) rfl rfl (go_callT [(0, (0 + 1) + 1)] (eD DX8_wordOf 13 rfl) ⟨eMem 6 24 rfl rfl, sJ0_charAt_5068e⟩ ⟨Nat.le_of_ble_eq_true rfl, Nat.le_of_ble_eq_true rfl⟩ (by decide) rfl rfl rfl (Nat.le_of_ble_eq_true rfl) (y_charAt w 5 ((0 + 1) + 1) (by decide) (by decide)) (go_i2l (eD DX8_wordOf 14 rfl) (by decide) (go_ladd (eD DX8_wordOf 15 rfl) (go_ldc2 (n := 97) (eD DX8_wordOf 16 rfl) (eMem 6 6 rfl rfl) (go_lsub (eD DX8_wordOf 17 rfl) (go_lconst (n := 1) (eD DX8_wordOf 18 rfl) rfl (go_ladd (eD DX8_wordOf 19 rfl) (go_lstore_n (eD DX8_wordOf 20 rfl) rfl (by decide) (go_iinc (eD DX8_wordOf 21 rfl) rfl (by decide) (go_goto (tgt := 4) (eD DX8_wordOf 22 rfl) rfl (go_iload_n (eD DX8_wordOf 4 rfl) rfl rfl (go_aload_n (eD DX8_wordOf 5 rfl) rfl rfl (go_callT [] (eD DX8_wordOf 6 rfl) ⟨eMem 6 20 rfl rfl, sJ0_length_8abf5⟩ ⟨Nat.le_of_ble_eq_true rfl, Nat.le_of_ble_eq_true rfl⟩ (by decide) rfl rfl rfl (Nat.le_of_ble_eq_true rfl) (y_length w 5 (by decide)) (go_icmp_geF (tgt := 37) (eD DX8_wordOf 7 rfl) rfl (show eI (((0 + 1) + 1) + 1) from by decide) (by decide) (Int.not_le.mpr (show ((((0 + 1) + 1) + 1) : Int) < 4 from by decide)) (?_)))))))))))))))))))
  refine go_lload_n (eD DX8_wordOf 8 rfl) rfl rfl (go_ldc2 (n := 32) (eD DX8_wordOf 9 rfl) (eMem 6 5 rfl rfl) (go_lmul (eD DX8_wordOf 10 rfl) (go_aload_n (eD DX8_wordOf 11 rfl) rfl rfl (go_iload_n (eD DX8_wordOf 12 rfl) rfl rfl (go_callT [(0, ((0 + 1) + 1) + 1)] (eD DX8_wordOf 13 rfl) ⟨eMem 6 24 rfl rfl, sJ0_charAt_5068e⟩ ⟨Nat.le_of_ble_eq_true rfl, Nat.le_of_ble_eq_true rfl⟩ (by decide) rfl rfl rfl (Nat.le_of_ble_eq_true rfl) (y_charAt w 5 (((0 + 1) + 1) + 1) (by decide) (by decide)) (go_i2l (eD DX8_wordOf 14 rfl) (by decide) (go_ladd (eD DX8_wordOf 15 rfl) (go_ldc2 (n := 97) (eD DX8_wordOf 16 rfl) (eMem 6 6 rfl rfl) (go_lsub (eD DX8_wordOf 17 rfl) (go_lconst (n := 1) (eD DX8_wordOf 18 rfl) rfl (go_ladd (eD DX8_wordOf 19 rfl) (go_lstore_n (eD DX8_wordOf 20 rfl) rfl (by decide) (go_iinc (eD DX8_wordOf 21 rfl) rfl (by decide) (go_goto (tgt := 4) (eD DX8_wordOf 22 rfl) rfl (go_iload_n (eD DX8_wordOf 4 rfl) rfl rfl (go_aload_n (eD DX8_wordOf 5 rfl) rfl rfl (go_callT [] (eD DX8_wordOf 6 rfl) ⟨eMem 6 20 rfl rfl, sJ0_length_8abf5⟩ ⟨Nat.le_of_ble_eq_true rfl, Nat.le_of_ble_eq_true rfl⟩ (by decide) rfl rfl rfl (Nat.le_of_ble_eq_true rfl) (y_length w 5 (by decide)) (go_icmp_geT (tgt := 37) (eD DX8_wordOf 7 rfl) rfl (show eI ((((0 + 1) + 1) + 1) + 1) from by decide) (by decide) (Int.not_lt.mp (show ¬ ((((((0 + 1) + 1) + 1) + 1) : Int) < 4) from by decide)) (?_)))))))))))))))))))
  exact go_lload_n (eD DX8_wordOf 23 rfl) rfl rfl (go_lret (eD DX8_wordOf 24 rfl) rfl)
theorem y_wordOf115 (w : eW) : Cal mX8_wordOf [eR 115] w (some (1, 427595)) w := Cal.as (zX8_wordOf115 w) (by unfold rX8_wordOf115; decide) rfl
set_option maxHeartbeats 4000000 in
set_option maxRecDepth 20000 in
theorem tX8_isWord113_0 {r : Option eV} {w9 : eW} (w : eW) (hf : eI (w 33 7)) (hp : 0 ≤ w 33 10 ∧ w 33 10 ≤ 400 ∧ 0 ≤ w 33 6 ∧ w 33 6 ≤ 400) (hk : w 33 9 = 2) (hw : eJ (w 33 13)) (k1 : (w 33 7) = 0 → ((w 33 6) - (w 33 10)) = 5 → (w 33 13) = 8902245 → r = some (0, 1) ∧ w9 = w) (k2 : (w 33 7) = 0 → ((w 33 6) - (w 33 10)) = 5 → ¬ ((w 33 13) = 8902245) → r = some (0, 0) ∧ w9 = w) (k3 : (w 33 7) = 0 → ¬ (((w 33 6) - (w 33 10)) = 5) → r = some (0, 0) ∧ w9 = w) (k4 : ¬ ((w 33 7) = 0) → r = some (0, 0) ∧ w9 = w) : Go mX8_isWord 0 [(0, eR 33), (1, eR 113)] [] w r w9 := by
  have a1 : (w 33 9) = 2 := by omega
  refine go_aload_n (eD DX8_isWord 0 rfl) rfl rfl (go_getI (kz := 7) (eD DX8_isWord 1 rfl) fX8_104 (by decide) rfl rfl rfl (?_))
  by_cases h1 : (w 33 7) = 0
  · refine go_if_neF (tgt := 47) (eD DX8_isWord 2 rfl) rfl (show eI (w 33 7) from by omega) (not_not_intro h1) ?_
    refine go_aload_n (eD DX8_isWord 3 rfl) rfl rfl (go_getI (kz := 9) (eD DX8_isWord 4 rfl) fX8_123 (by decide) rfl rfl rfl (go_iconst (eD DX8_isWord 5 rfl) (go_icmp_neF (tgt := 47) (eD DX8_isWord 6 rfl) rfl (show eI (w 33 9) from by omega) (by decide) (not_not_intro a1) (?_))))
    refine go_aload_n (eD DX8_isWord 7 rfl) rfl rfl (go_getI (kz := 6) (eD DX8_isWord 8 rfl) fX8_120 (by decide) rfl rfl rfl (go_aload_n (eD DX8_isWord 9 rfl) rfl rfl (go_getI (kz := 10) (eD DX8_isWord 10 rfl) fX8_107 (by decide) rfl rfl rfl (go_isub (eD DX8_isWord 11 rfl) (go_aload_n (eD DX8_isWord 12 rfl) rfl rfl (go_callT [] (eD DX8_isWord 13 rfl) ⟨eMem 6 20 rfl rfl, sJ0_length_8abf5⟩ ⟨Nat.le_of_ble_eq_true rfl, Nat.le_of_ble_eq_true rfl⟩ (by decide) rfl rfl rfl (Nat.le_of_ble_eq_true rfl) (y_length w 3 (by decide)) (?_)))))))
    by_cases h2 : ((w 33 6) - (w 33 10)) = 5
    · refine go_icmp_neF (tgt := 47) (eD DX8_isWord 14 rfl) rfl (show eI ((w 33 6) - (w 33 10)) from by omega) (by decide) (not_not_intro h2) ?_
      refine go_aload_n (eD DX8_isWord 15 rfl) rfl rfl (go_getJ (kz := 13) (eD DX8_isWord 16 rfl) fX8_130 (by decide) rfl rfl rfl (go_aload_n (eD DX8_isWord 17 rfl) rfl rfl (go_callS [eR 113] (eD DX8_isWord 18 rfl) ⟨eMem 6 21 rfl rfl, sX8_wordOf⟩ ⟨Nat.le_of_ble_eq_true rfl, Nat.le_of_ble_eq_true rfl⟩ rfl rfl (Nat.le_of_ble_eq_true rfl) (y_wordOf113 w) (?_))))
      by_cases h3 : (w 33 13) = 8902245
      · refine go_lneF (tgt := 47) (eD DX8_isWord 19 rfl) (eD DX8_isWord 20 rfl) rfl (show eJ (w 33 13) from by omega) (by decide) (not_not_intro h3) ?_
        rw [(k1 h1 h2 h3).1, (k1 h1 h2 h3).2]
        exact go_iconst (eD DX8_isWord 21 rfl) (go_goto (tgt := 48) (eD DX8_isWord 22 rfl) rfl (go_zret (eD DX8_isWord 24 rfl) rfl (by decide)))
      · refine go_lneT (tgt := 47) (eD DX8_isWord 19 rfl) (eD DX8_isWord 20 rfl) rfl (show eJ (w 33 13) from by omega) (by decide) h3 ?_
        rw [(k2 h1 h2 h3).1, (k2 h1 h2 h3).2]
        exact go_iconst (eD DX8_isWord 23 rfl) (go_zret (eD DX8_isWord 24 rfl) rfl (by decide))
    · refine go_icmp_neT (tgt := 47) (eD DX8_isWord 14 rfl) rfl (show eI ((w 33 6) - (w 33 10)) from by omega) (by decide) h2 ?_
      rw [(k3 h1 h2).1, (k3 h1 h2).2]
      exact go_iconst (eD DX8_isWord 23 rfl) (go_zret (eD DX8_isWord 24 rfl) rfl (by decide))
  · refine go_if_neT (tgt := 47) (eD DX8_isWord 2 rfl) rfl (show eI (w 33 7) from by omega) h1 ?_
    rw [(k4 h1).1, (k4 h1).2]
    exact go_iconst (eD DX8_isWord 23 rfl) (go_zret (eD DX8_isWord 24 rfl) rfl (by decide))
set_option maxHeartbeats 4000000 in
set_option maxRecDepth 20000 in
theorem tX8_isWordN113_0 {r : Option eV} {w9 : eW} (w : eW) (hf : eI (w 33 7)) (hp : 0 ≤ w 33 10 ∧ w 33 10 ≤ 400 ∧ 0 ≤ w 33 6 ∧ w 33 6 ≤ 400) (hk : ¬ w 33 9 = 2) (hk2 : eI (w 33 9)) (k1 : (w 33 7) = 0 → r = some (0, 0) ∧ w9 = w) (k2 : ¬ ((w 33 7) = 0) → r = some (0, 0) ∧ w9 = w) : Go mX8_isWord 0 [(0, eR 33), (1, eR 113)] [] w r w9 := by
  have a1 : ¬ ((w 33 9) = 2) := by omega
  refine go_aload_n (eD DX8_isWord 0 rfl) rfl rfl (go_getI (kz := 7) (eD DX8_isWord 1 rfl) fX8_104 (by decide) rfl rfl rfl (?_))
  by_cases h1 : (w 33 7) = 0
  · refine go_if_neF (tgt := 47) (eD DX8_isWord 2 rfl) rfl (show eI (w 33 7) from by omega) (not_not_intro h1) ?_
    refine go_aload_n (eD DX8_isWord 3 rfl) rfl rfl (go_getI (kz := 9) (eD DX8_isWord 4 rfl) fX8_123 (by decide) rfl rfl rfl (go_iconst (eD DX8_isWord 5 rfl) (go_icmp_neT (tgt := 47) (eD DX8_isWord 6 rfl) rfl (show eI (w 33 9) from by omega) (by decide) a1 (?_))))
    rw [(k1 h1).1, (k1 h1).2]
    exact go_iconst (eD DX8_isWord 23 rfl) (go_zret (eD DX8_isWord 24 rfl) rfl (by decide))
  · refine go_if_neT (tgt := 47) (eD DX8_isWord 2 rfl) rfl (show eI (w 33 7) from by omega) h1 ?_
    rw [(k2 h1).1, (k2 h1).2]
    exact go_iconst (eD DX8_isWord 23 rfl) (go_zret (eD DX8_isWord 24 rfl) rfl (by decide))
set_option maxHeartbeats 4000000 in
set_option maxRecDepth 20000 in
theorem tX8_isWord114_0 {r : Option eV} {w9 : eW} (w : eW) (hf : eI (w 33 7)) (hp : 0 ≤ w 33 10 ∧ w 33 10 ≤ 400 ∧ 0 ≤ w 33 6 ∧ w 33 6 ≤ 400) (hk : w 33 9 = 2) (hw : eJ (w 33 13)) (k1 : (w 33 7) = 0 → ((w 33 6) - (w 33 10)) = 5 → (w 33 13) = 20452516 → r = some (0, 1) ∧ w9 = w) (k2 : (w 33 7) = 0 → ((w 33 6) - (w 33 10)) = 5 → ¬ ((w 33 13) = 20452516) → r = some (0, 0) ∧ w9 = w) (k3 : (w 33 7) = 0 → ¬ (((w 33 6) - (w 33 10)) = 5) → r = some (0, 0) ∧ w9 = w) (k4 : ¬ ((w 33 7) = 0) → r = some (0, 0) ∧ w9 = w) : Go mX8_isWord 0 [(0, eR 33), (1, eR 114)] [] w r w9 := by
  have a1 : (w 33 9) = 2 := by omega
  refine go_aload_n (eD DX8_isWord 0 rfl) rfl rfl (go_getI (kz := 7) (eD DX8_isWord 1 rfl) fX8_104 (by decide) rfl rfl rfl (?_))
  by_cases h1 : (w 33 7) = 0
  · refine go_if_neF (tgt := 47) (eD DX8_isWord 2 rfl) rfl (show eI (w 33 7) from by omega) (not_not_intro h1) ?_
    refine go_aload_n (eD DX8_isWord 3 rfl) rfl rfl (go_getI (kz := 9) (eD DX8_isWord 4 rfl) fX8_123 (by decide) rfl rfl rfl (go_iconst (eD DX8_isWord 5 rfl) (go_icmp_neF (tgt := 47) (eD DX8_isWord 6 rfl) rfl (show eI (w 33 9) from by omega) (by decide) (not_not_intro a1) (?_))))
    refine go_aload_n (eD DX8_isWord 7 rfl) rfl rfl (go_getI (kz := 6) (eD DX8_isWord 8 rfl) fX8_120 (by decide) rfl rfl rfl (go_aload_n (eD DX8_isWord 9 rfl) rfl rfl (go_getI (kz := 10) (eD DX8_isWord 10 rfl) fX8_107 (by decide) rfl rfl rfl (go_isub (eD DX8_isWord 11 rfl) (go_aload_n (eD DX8_isWord 12 rfl) rfl rfl (go_callT [] (eD DX8_isWord 13 rfl) ⟨eMem 6 20 rfl rfl, sJ0_length_8abf5⟩ ⟨Nat.le_of_ble_eq_true rfl, Nat.le_of_ble_eq_true rfl⟩ (by decide) rfl rfl rfl (Nat.le_of_ble_eq_true rfl) (y_length w 4 (by decide)) (?_)))))))
    by_cases h2 : ((w 33 6) - (w 33 10)) = 5
    · refine go_icmp_neF (tgt := 47) (eD DX8_isWord 14 rfl) rfl (show eI ((w 33 6) - (w 33 10)) from by omega) (by decide) (not_not_intro h2) ?_
      refine go_aload_n (eD DX8_isWord 15 rfl) rfl rfl (go_getJ (kz := 13) (eD DX8_isWord 16 rfl) fX8_130 (by decide) rfl rfl rfl (go_aload_n (eD DX8_isWord 17 rfl) rfl rfl (go_callS [eR 114] (eD DX8_isWord 18 rfl) ⟨eMem 6 21 rfl rfl, sX8_wordOf⟩ ⟨Nat.le_of_ble_eq_true rfl, Nat.le_of_ble_eq_true rfl⟩ rfl rfl (Nat.le_of_ble_eq_true rfl) (y_wordOf114 w) (?_))))
      by_cases h3 : (w 33 13) = 20452516
      · refine go_lneF (tgt := 47) (eD DX8_isWord 19 rfl) (eD DX8_isWord 20 rfl) rfl (show eJ (w 33 13) from by omega) (by decide) (not_not_intro h3) ?_
        rw [(k1 h1 h2 h3).1, (k1 h1 h2 h3).2]
        exact go_iconst (eD DX8_isWord 21 rfl) (go_goto (tgt := 48) (eD DX8_isWord 22 rfl) rfl (go_zret (eD DX8_isWord 24 rfl) rfl (by decide)))
      · refine go_lneT (tgt := 47) (eD DX8_isWord 19 rfl) (eD DX8_isWord 20 rfl) rfl (show eJ (w 33 13) from by omega) (by decide) h3 ?_
        rw [(k2 h1 h2 h3).1, (k2 h1 h2 h3).2]
        exact go_iconst (eD DX8_isWord 23 rfl) (go_zret (eD DX8_isWord 24 rfl) rfl (by decide))
    · refine go_icmp_neT (tgt := 47) (eD DX8_isWord 14 rfl) rfl (show eI ((w 33 6) - (w 33 10)) from by omega) (by decide) h2 ?_
      rw [(k3 h1 h2).1, (k3 h1 h2).2]
      exact go_iconst (eD DX8_isWord 23 rfl) (go_zret (eD DX8_isWord 24 rfl) rfl (by decide))
  · refine go_if_neT (tgt := 47) (eD DX8_isWord 2 rfl) rfl (show eI (w 33 7) from by omega) h1 ?_
    rw [(k4 h1).1, (k4 h1).2]
    exact go_iconst (eD DX8_isWord 23 rfl) (go_zret (eD DX8_isWord 24 rfl) rfl (by decide))
set_option maxHeartbeats 4000000 in
set_option maxRecDepth 20000 in
theorem tX8_isWordN114_0 {r : Option eV} {w9 : eW} (w : eW) (hf : eI (w 33 7)) (hp : 0 ≤ w 33 10 ∧ w 33 10 ≤ 400 ∧ 0 ≤ w 33 6 ∧ w 33 6 ≤ 400) (hk : ¬ w 33 9 = 2) (hk2 : eI (w 33 9)) (k1 : (w 33 7) = 0 → r = some (0, 0) ∧ w9 = w) (k2 : ¬ ((w 33 7) = 0) → r = some (0, 0) ∧ w9 = w) : Go mX8_isWord 0 [(0, eR 33), (1, eR 114)] [] w r w9 := by
  have a1 : ¬ ((w 33 9) = 2) := by omega
  refine go_aload_n (eD DX8_isWord 0 rfl) rfl rfl (go_getI (kz := 7) (eD DX8_isWord 1 rfl) fX8_104 (by decide) rfl rfl rfl (?_))
  by_cases h1 : (w 33 7) = 0
  · refine go_if_neF (tgt := 47) (eD DX8_isWord 2 rfl) rfl (show eI (w 33 7) from by omega) (not_not_intro h1) ?_
    refine go_aload_n (eD DX8_isWord 3 rfl) rfl rfl (go_getI (kz := 9) (eD DX8_isWord 4 rfl) fX8_123 (by decide) rfl rfl rfl (go_iconst (eD DX8_isWord 5 rfl) (go_icmp_neT (tgt := 47) (eD DX8_isWord 6 rfl) rfl (show eI (w 33 9) from by omega) (by decide) a1 (?_))))
    rw [(k1 h1).1, (k1 h1).2]
    exact go_iconst (eD DX8_isWord 23 rfl) (go_zret (eD DX8_isWord 24 rfl) rfl (by decide))
  · refine go_if_neT (tgt := 47) (eD DX8_isWord 2 rfl) rfl (show eI (w 33 7) from by omega) h1 ?_
    rw [(k2 h1).1, (k2 h1).2]
    exact go_iconst (eD DX8_isWord 23 rfl) (go_zret (eD DX8_isWord 24 rfl) rfl (by decide))
set_option maxHeartbeats 4000000 in
set_option maxRecDepth 20000 in
theorem tX8_isWord115_0 {r : Option eV} {w9 : eW} (w : eW) (hf : eI (w 33 7)) (hp : 0 ≤ w 33 10 ∧ w 33 10 ≤ 400 ∧ 0 ≤ w 33 6 ∧ w 33 6 ≤ 400) (hk : w 33 9 = 2) (hw : eJ (w 33 13)) (k1 : (w 33 7) = 0 → ((w 33 6) - (w 33 10)) = 4 → (w 33 13) = 427595 → r = some (0, 1) ∧ w9 = w) (k2 : (w 33 7) = 0 → ((w 33 6) - (w 33 10)) = 4 → ¬ ((w 33 13) = 427595) → r = some (0, 0) ∧ w9 = w) (k3 : (w 33 7) = 0 → ¬ (((w 33 6) - (w 33 10)) = 4) → r = some (0, 0) ∧ w9 = w) (k4 : ¬ ((w 33 7) = 0) → r = some (0, 0) ∧ w9 = w) : Go mX8_isWord 0 [(0, eR 33), (1, eR 115)] [] w r w9 := by
  have a1 : (w 33 9) = 2 := by omega
  refine go_aload_n (eD DX8_isWord 0 rfl) rfl rfl (go_getI (kz := 7) (eD DX8_isWord 1 rfl) fX8_104 (by decide) rfl rfl rfl (?_))
  by_cases h1 : (w 33 7) = 0
  · refine go_if_neF (tgt := 47) (eD DX8_isWord 2 rfl) rfl (show eI (w 33 7) from by omega) (not_not_intro h1) ?_
    refine go_aload_n (eD DX8_isWord 3 rfl) rfl rfl (go_getI (kz := 9) (eD DX8_isWord 4 rfl) fX8_123 (by decide) rfl rfl rfl (go_iconst (eD DX8_isWord 5 rfl) (go_icmp_neF (tgt := 47) (eD DX8_isWord 6 rfl) rfl (show eI (w 33 9) from by omega) (by decide) (not_not_intro a1) (?_))))
    refine go_aload_n (eD DX8_isWord 7 rfl) rfl rfl (go_getI (kz := 6) (eD DX8_isWord 8 rfl) fX8_120 (by decide) rfl rfl rfl (go_aload_n (eD DX8_isWord 9 rfl) rfl rfl (go_getI (kz := 10) (eD DX8_isWord 10 rfl) fX8_107 (by decide) rfl rfl rfl (go_isub (eD DX8_isWord 11 rfl) (go_aload_n (eD DX8_isWord 12 rfl) rfl rfl (go_callT [] (eD DX8_isWord 13 rfl) ⟨eMem 6 20 rfl rfl, sJ0_length_8abf5⟩ ⟨Nat.le_of_ble_eq_true rfl, Nat.le_of_ble_eq_true rfl⟩ (by decide) rfl rfl rfl (Nat.le_of_ble_eq_true rfl) (y_length w 5 (by decide)) (?_)))))))
    by_cases h2 : ((w 33 6) - (w 33 10)) = 4
    · refine go_icmp_neF (tgt := 47) (eD DX8_isWord 14 rfl) rfl (show eI ((w 33 6) - (w 33 10)) from by omega) (by decide) (not_not_intro h2) ?_
      refine go_aload_n (eD DX8_isWord 15 rfl) rfl rfl (go_getJ (kz := 13) (eD DX8_isWord 16 rfl) fX8_130 (by decide) rfl rfl rfl (go_aload_n (eD DX8_isWord 17 rfl) rfl rfl (go_callS [eR 115] (eD DX8_isWord 18 rfl) ⟨eMem 6 21 rfl rfl, sX8_wordOf⟩ ⟨Nat.le_of_ble_eq_true rfl, Nat.le_of_ble_eq_true rfl⟩ rfl rfl (Nat.le_of_ble_eq_true rfl) (y_wordOf115 w) (?_))))
      by_cases h3 : (w 33 13) = 427595
      · refine go_lneF (tgt := 47) (eD DX8_isWord 19 rfl) (eD DX8_isWord 20 rfl) rfl (show eJ (w 33 13) from by omega) (by decide) (not_not_intro h3) ?_
        rw [(k1 h1 h2 h3).1, (k1 h1 h2 h3).2]
        exact go_iconst (eD DX8_isWord 21 rfl) (go_goto (tgt := 48) (eD DX8_isWord 22 rfl) rfl (go_zret (eD DX8_isWord 24 rfl) rfl (by decide)))
      · refine go_lneT (tgt := 47) (eD DX8_isWord 19 rfl) (eD DX8_isWord 20 rfl) rfl (show eJ (w 33 13) from by omega) (by decide) h3 ?_
        rw [(k2 h1 h2 h3).1, (k2 h1 h2 h3).2]
        exact go_iconst (eD DX8_isWord 23 rfl) (go_zret (eD DX8_isWord 24 rfl) rfl (by decide))
    · refine go_icmp_neT (tgt := 47) (eD DX8_isWord 14 rfl) rfl (show eI ((w 33 6) - (w 33 10)) from by omega) (by decide) h2 ?_
      rw [(k3 h1 h2).1, (k3 h1 h2).2]
      exact go_iconst (eD DX8_isWord 23 rfl) (go_zret (eD DX8_isWord 24 rfl) rfl (by decide))
  · refine go_if_neT (tgt := 47) (eD DX8_isWord 2 rfl) rfl (show eI (w 33 7) from by omega) h1 ?_
    rw [(k4 h1).1, (k4 h1).2]
    exact go_iconst (eD DX8_isWord 23 rfl) (go_zret (eD DX8_isWord 24 rfl) rfl (by decide))
set_option maxHeartbeats 4000000 in
set_option maxRecDepth 20000 in
theorem tX8_isWordN115_0 {r : Option eV} {w9 : eW} (w : eW) (hf : eI (w 33 7)) (hp : 0 ≤ w 33 10 ∧ w 33 10 ≤ 400 ∧ 0 ≤ w 33 6 ∧ w 33 6 ≤ 400) (hk : ¬ w 33 9 = 2) (hk2 : eI (w 33 9)) (k1 : (w 33 7) = 0 → r = some (0, 0) ∧ w9 = w) (k2 : ¬ ((w 33 7) = 0) → r = some (0, 0) ∧ w9 = w) : Go mX8_isWord 0 [(0, eR 33), (1, eR 115)] [] w r w9 := by
  have a1 : ¬ ((w 33 9) = 2) := by omega
  refine go_aload_n (eD DX8_isWord 0 rfl) rfl rfl (go_getI (kz := 7) (eD DX8_isWord 1 rfl) fX8_104 (by decide) rfl rfl rfl (?_))
  by_cases h1 : (w 33 7) = 0
  · refine go_if_neF (tgt := 47) (eD DX8_isWord 2 rfl) rfl (show eI (w 33 7) from by omega) (not_not_intro h1) ?_
    refine go_aload_n (eD DX8_isWord 3 rfl) rfl rfl (go_getI (kz := 9) (eD DX8_isWord 4 rfl) fX8_123 (by decide) rfl rfl rfl (go_iconst (eD DX8_isWord 5 rfl) (go_icmp_neT (tgt := 47) (eD DX8_isWord 6 rfl) rfl (show eI (w 33 9) from by omega) (by decide) a1 (?_))))
    rw [(k1 h1).1, (k1 h1).2]
    exact go_iconst (eD DX8_isWord 23 rfl) (go_zret (eD DX8_isWord 24 rfl) rfl (by decide))
  · refine go_if_neT (tgt := 47) (eD DX8_isWord 2 rfl) rfl (show eI (w 33 7) from by omega) h1 ?_
    rw [(k2 h1).1, (k2 h1).2]
    exact go_iconst (eD DX8_isWord 23 rfl) (go_zret (eD DX8_isWord 24 rfl) rfl (by decide))
set_option maxHeartbeats 4000000 in
set_option maxRecDepth 20000 in
theorem tX8_isSign_0 {r : Option eV} {w9 : eW} (w : eW) (c : Int) (hf : eI (w 33 7)) (hk : w 33 9 = 4) (hc : eI c) (hw : eI (w 33 11)) (k1 : (w 33 7) = 0 → (w 33 11) = c → r = some (0, 1) ∧ w9 = w) (k2 : (w 33 7) = 0 → ¬ ((w 33 11) = c) → r = some (0, 0) ∧ w9 = w) (k3 : ¬ ((w 33 7) = 0) → r = some (0, 0) ∧ w9 = w) : Go mX8_isSign 0 [(0, eR 33), (1, (0, c))] [] w r w9 := by
  have a1 : (w 33 9) = 4 := by omega
  refine go_aload_n (eD DX8_isSign 0 rfl) rfl rfl (go_getI (kz := 7) (eD DX8_isSign 1 rfl) fX8_104 (by decide) rfl rfl rfl (?_))
  by_cases h1 : (w 33 7) = 0
  · refine go_if_neF (tgt := 27) (eD DX8_isSign 2 rfl) rfl (show eI (w 33 7) from by omega) (not_not_intro h1) ?_
    refine go_aload_n (eD DX8_isSign 3 rfl) rfl rfl (go_getI (kz := 9) (eD DX8_isSign 4 rfl) fX8_123 (by decide) rfl rfl rfl (go_iconst (eD DX8_isSign 5 rfl) (go_icmp_neF (tgt := 27) (eD DX8_isSign 6 rfl) rfl (show eI (w 33 9) from by omega) (by decide) (not_not_intro a1) (?_))))
    refine go_aload_n (eD DX8_isSign 7 rfl) rfl rfl (go_getI (kz := 11) (eD DX8_isSign 8 rfl) fX8_144 (by decide) rfl rfl rfl (go_iload_n (eD DX8_isSign 9 rfl) rfl rfl (?_)))
    by_cases h2 : (w 33 11) = c
    · refine go_icmp_neF (tgt := 27) (eD DX8_isSign 10 rfl) rfl (show eI (w 33 11) from by omega) (by omega) (not_not_intro h2) ?_
      rw [(k1 h1 h2).1, (k1 h1 h2).2]
      exact go_iconst (eD DX8_isSign 11 rfl) (go_goto (tgt := 28) (eD DX8_isSign 12 rfl) rfl (go_zret (eD DX8_isSign 14 rfl) rfl (by decide)))
    · refine go_icmp_neT (tgt := 27) (eD DX8_isSign 10 rfl) rfl (show eI (w 33 11) from by omega) (by omega) h2 ?_
      rw [(k2 h1 h2).1, (k2 h1 h2).2]
      exact go_iconst (eD DX8_isSign 13 rfl) (go_zret (eD DX8_isSign 14 rfl) rfl (by decide))
  · refine go_if_neT (tgt := 27) (eD DX8_isSign 2 rfl) rfl (show eI (w 33 7) from by omega) h1 ?_
    rw [(k3 h1).1, (k3 h1).2]
    exact go_iconst (eD DX8_isSign 13 rfl) (go_zret (eD DX8_isSign 14 rfl) rfl (by decide))
set_option maxHeartbeats 4000000 in
set_option maxRecDepth 20000 in
theorem tX8_isSignN_0 {r : Option eV} {w9 : eW} (w : eW) (c : Int) (hf : eI (w 33 7)) (hk : ¬ w 33 9 = 4) (hk2 : eI (w 33 9)) (k1 : (w 33 7) = 0 → r = some (0, 0) ∧ w9 = w) (k2 : ¬ ((w 33 7) = 0) → r = some (0, 0) ∧ w9 = w) : Go mX8_isSign 0 [(0, eR 33), (1, (0, c))] [] w r w9 := by
  have a1 : ¬ ((w 33 9) = 4) := by omega
  refine go_aload_n (eD DX8_isSign 0 rfl) rfl rfl (go_getI (kz := 7) (eD DX8_isSign 1 rfl) fX8_104 (by decide) rfl rfl rfl (?_))
  by_cases h1 : (w 33 7) = 0
  · refine go_if_neF (tgt := 27) (eD DX8_isSign 2 rfl) rfl (show eI (w 33 7) from by omega) (not_not_intro h1) ?_
    refine go_aload_n (eD DX8_isSign 3 rfl) rfl rfl (go_getI (kz := 9) (eD DX8_isSign 4 rfl) fX8_123 (by decide) rfl rfl rfl (go_iconst (eD DX8_isSign 5 rfl) (go_icmp_neT (tgt := 27) (eD DX8_isSign 6 rfl) rfl (show eI (w 33 9) from by omega) (by decide) a1 (?_))))
    rw [(k1 h1).1, (k1 h1).2]
    exact go_iconst (eD DX8_isSign 13 rfl) (go_zret (eD DX8_isSign 14 rfl) rfl (by decide))
  · refine go_if_neT (tgt := 27) (eD DX8_isSign 2 rfl) rfl (show eI (w 33 7) from by omega) h1 ?_
    rw [(k2 h1).1, (k2 h1).2]
    exact go_iconst (eD DX8_isSign 13 rfl) (go_zret (eD DX8_isSign 14 rfl) rfl (by decide))
set_option maxHeartbeats 4000000 in
set_option maxRecDepth 20000 in
theorem tX8_readWhole_0 {r : Option eV} {w9 : eW} (w : eW) (a b : Int) {w1 : eW} (hf : w 33 7 = 0) (hk : w 33 9 = 3) (ha : eI a) (hb : eI b) (hw : eI (w 33 12)) (g : a ≤ w 33 12 ∧ w 33 12 ≤ b → Cal mX8_goOn [eR 33] w none w1) (k1 : a ≤ (w 33 12) ∧ (w 33 12) ≤ b → r = some (0, w 33 12) ∧ w9 = w1) (k2 : ¬ (a ≤ (w 33 12) ∧ (w 33 12) ≤ b) → r = some (0, w 33 12) ∧ w9 = (eU (eU w 33 7 2) 33 8 (w 33 10))) : Go mX8_readWhole 0 [(0, eR 33), (1, (0, a)), (2, (0, b))] [] w r w9 := by
  have a1 : ¬ (0 < (w 33 7)) := by omega
  have a2 : (w 33 9) = 3 := by omega
  refine go_aload_n (eD DX8_readWhole 0 rfl) rfl rfl (go_getI (kz := 9) (eD DX8_readWhole 1 rfl) fX8_123 (by decide) rfl rfl rfl (go_iconst (eD DX8_readWhole 2 rfl) (go_icmp_eqT (tgt := 16) (eD DX8_readWhole 3 rfl) rfl (show eI (w 33 9) from by omega) (by decide) a2 (?_))))
  refine go_aload_n (eD DX8_readWhole 8 rfl) rfl rfl (go_getI (kz := 12) (eD DX8_readWhole 9 rfl) fX8_141 (by decide) rfl rfl rfl (go_iload_n (eD DX8_readWhole 10 rfl) rfl rfl (go_iload_n (eD DX8_readWhole 11 rfl) rfl rfl (go_callS [(0, w 33 12), (0, a), (0, b)] (eD DX8_readWhole 12 rfl) ⟨eMem 5 230 rfl rfl, sX8_in⟩ ⟨Nat.le_of_ble_eq_true rfl, Nat.le_of_ble_eq_true rfl⟩ rfl rfl (Nat.le_of_ble_eq_true rfl) (y_b_X8_in w (w 33 12) a b (show eI (w 33 12) from by omega) (by omega) (by omega) ) (?_)))))
  by_cases h1 : a ≤ (w 33 12) ∧ (w 33 12) ≤ b
  · refine go_if_neT (tgt := 33) (eD DX8_readWhole 13 rfl) rfl (eI_pI _) (pI1 h1) ?_
    rw [(k1 h1).1, (k1 h1).2]
    exact go_aload_n (eD DX8_readWhole 17 rfl) rfl rfl (go_getI (kz := 12) (eD DX8_readWhole 18 rfl) fX8_141 (by decide) rfl rfl rfl (go_istore_n (eD DX8_readWhole 19 rfl) rfl (by decide) (go_aload_n (eD DX8_readWhole 20 rfl) rfl rfl (go_callV (ci := 8) [] (eD DX8_readWhole 21 rfl) ⟨eMem 5 237 rfl rfl, sX8_goOn⟩ ⟨Nat.le_of_ble_eq_true rfl, Nat.le_of_ble_eq_true rfl⟩ (by decide) ⟨rfl, by decide, _, rfl, rfl⟩ rfl rfl (Nat.le_of_ble_eq_true rfl) (g (by assumption)) (go_iload_n (eD DX8_readWhole 22 rfl) rfl rfl (go_iret (eD DX8_readWhole 23 rfl) rfl))))))
  · refine go_if_neF (tgt := 33) (eD DX8_readWhole 13 rfl) rfl (eI_pI _) (not_not_intro (pI0 h1)) ?_
    refine go_aload_n (eD DX8_readWhole 14 rfl) rfl rfl (go_iconst (eD DX8_readWhole 15 rfl) (?_))
    refine go_callV (ci := 8) [(0, 2)] (eD DX8_readWhole 16 rfl) ⟨eMem 6 25 rfl rfl, sX8_flaw⟩ ⟨Nat.le_of_ble_eq_true rfl, Nat.le_of_ble_eq_true rfl⟩ (by decide) ⟨rfl, by decide, _, rfl, rfl⟩ rfl rfl (Nat.le_of_ble_eq_true rfl) (Cal.as (zX8_flaw w 2  (by first | assumption | omega)) (r2 := none) (w2 := (eU (eU w 33 7 2) 33 8 (w 33 10))) rfl (by (try simp only [wX8_flaw, if_neg a1, if_pos a2, if_neg h1]) <;> (try rfl))) (?_)
    rw [(k2 h1).1, (k2 h1).2]
    exact go_aload_n (eD DX8_readWhole 17 rfl) rfl rfl (go_getI (kz := 12) (eD DX8_readWhole 18 rfl) fX8_141 (by decide) rfl rfl rfl (go_istore_n (eD DX8_readWhole 19 rfl) rfl (by decide) (go_aload_n (eD DX8_readWhole 20 rfl) rfl rfl (go_callV (ci := 8) [] (eD DX8_readWhole 21 rfl) ⟨eMem 5 237 rfl rfl, sX8_goOn⟩ ⟨Nat.le_of_ble_eq_true rfl, Nat.le_of_ble_eq_true rfl⟩ (by decide) ⟨rfl, by decide, _, rfl, rfl⟩ rfl rfl (Nat.le_of_ble_eq_true rfl) (y_goOnF (eU (eU w 33 7 2) 33 8 (w 33 10)) (by first | assumption | simp [eU])) (go_iload_n (eD DX8_readWhole 22 rfl) rfl rfl (go_iret (eD DX8_readWhole 23 rfl) rfl))))))
set_option maxHeartbeats 4000000 in
set_option maxRecDepth 20000 in
theorem tX8_readWholeN_0 {r : Option eV} {w9 : eW} (w : eW) (a b : Int) (hf : w 33 7 = 0) (hk : ¬ w 33 9 = 3) (hk2 : eI (w 33 9)) (k1 : r = some (0, w 33 12) ∧ w9 = (eU (eU w 33 7 1) 33 8 (w 33 10))) : Go mX8_readWhole 0 [(0, eR 33), (1, (0, a)), (2, (0, b))] [] w r w9 := by
  have a1 : ¬ (0 < (w 33 7)) := by omega
  have a2 : ¬ ((w 33 9) = 3) := by omega
  refine go_aload_n (eD DX8_readWhole 0 rfl) rfl rfl (go_getI (kz := 9) (eD DX8_readWhole 1 rfl) fX8_123 (by decide) rfl rfl rfl (go_iconst (eD DX8_readWhole 2 rfl) (go_icmp_eqF (tgt := 16) (eD DX8_readWhole 3 rfl) rfl (show eI (w 33 9) from by omega) (by decide) a2 (?_))))
  refine go_aload_n (eD DX8_readWhole 4 rfl) rfl rfl (go_iconst (eD DX8_readWhole 5 rfl) (?_))
  refine go_callV (ci := 8) [(0, 1)] (eD DX8_readWhole 6 rfl) ⟨eMem 6 25 rfl rfl, sX8_flaw⟩ ⟨Nat.le_of_ble_eq_true rfl, Nat.le_of_ble_eq_true rfl⟩ (by decide) ⟨rfl, by decide, _, rfl, rfl⟩ rfl rfl (Nat.le_of_ble_eq_true rfl) (Cal.as (zX8_flaw w 1  (by first | assumption | omega)) (r2 := none) (w2 := (eU (eU w 33 7 1) 33 8 (w 33 10))) rfl (by (try simp only [wX8_flaw, if_neg a1, if_neg a2]) <;> (try rfl))) (?_)
  rw [(k1).1, (k1).2]
  exact go_goto (tgt := 33) (eD DX8_readWhole 7 rfl) rfl (go_aload_n (eD DX8_readWhole 17 rfl) rfl rfl (go_getI (kz := 12) (eD DX8_readWhole 18 rfl) fX8_141 (by decide) rfl rfl rfl (go_istore_n (eD DX8_readWhole 19 rfl) rfl (by decide) (go_aload_n (eD DX8_readWhole 20 rfl) rfl rfl (go_callV (ci := 8) [] (eD DX8_readWhole 21 rfl) ⟨eMem 5 237 rfl rfl, sX8_goOn⟩ ⟨Nat.le_of_ble_eq_true rfl, Nat.le_of_ble_eq_true rfl⟩ (by decide) ⟨rfl, by decide, _, rfl, rfl⟩ rfl rfl (Nat.le_of_ble_eq_true rfl) (y_goOnF (eU (eU w 33 7 1) 33 8 (w 33 10)) (by first | assumption | simp [eU])) (go_iload_n (eD DX8_readWhole 22 rfl) rfl rfl (go_iret (eD DX8_readWhole 23 rfl) rfl)))))))
set_option maxHeartbeats 4000000 in
set_option maxRecDepth 20000 in
theorem tX8_readWholeF_0 {r : Option eV} {w9 : eW} (w : eW) (a b : Int) (hf : 1 ≤ w 33 7 ∧ w 33 7 ≤ 5) (hk : w 33 9 = 3) (ha : eI a) (hb : eI b) (hw : eI (w 33 12)) (k1 : a ≤ (w 33 12) ∧ (w 33 12) ≤ b → r = some (0, w 33 12) ∧ w9 = w) (k2 : ¬ (a ≤ (w 33 12) ∧ (w 33 12) ≤ b) → r = some (0, w 33 12) ∧ w9 = w) : Go mX8_readWhole 0 [(0, eR 33), (1, (0, a)), (2, (0, b))] [] w r w9 := by
  have a1 : 0 < (w 33 7) := by omega
  have a2 : (w 33 9) = 3 := by omega
  refine go_aload_n (eD DX8_readWhole 0 rfl) rfl rfl (go_getI (kz := 9) (eD DX8_readWhole 1 rfl) fX8_123 (by decide) rfl rfl rfl (go_iconst (eD DX8_readWhole 2 rfl) (go_icmp_eqT (tgt := 16) (eD DX8_readWhole 3 rfl) rfl (show eI (w 33 9) from by omega) (by decide) a2 (?_))))
  refine go_aload_n (eD DX8_readWhole 8 rfl) rfl rfl (go_getI (kz := 12) (eD DX8_readWhole 9 rfl) fX8_141 (by decide) rfl rfl rfl (go_iload_n (eD DX8_readWhole 10 rfl) rfl rfl (go_iload_n (eD DX8_readWhole 11 rfl) rfl rfl (go_callS [(0, w 33 12), (0, a), (0, b)] (eD DX8_readWhole 12 rfl) ⟨eMem 5 230 rfl rfl, sX8_in⟩ ⟨Nat.le_of_ble_eq_true rfl, Nat.le_of_ble_eq_true rfl⟩ rfl rfl (Nat.le_of_ble_eq_true rfl) (y_b_X8_in w (w 33 12) a b (show eI (w 33 12) from by omega) (by omega) (by omega) ) (?_)))))
  by_cases h1 : a ≤ (w 33 12) ∧ (w 33 12) ≤ b
  · refine go_if_neT (tgt := 33) (eD DX8_readWhole 13 rfl) rfl (eI_pI _) (pI1 h1) ?_
    rw [(k1 h1).1, (k1 h1).2]
    exact go_aload_n (eD DX8_readWhole 17 rfl) rfl rfl (go_getI (kz := 12) (eD DX8_readWhole 18 rfl) fX8_141 (by decide) rfl rfl rfl (go_istore_n (eD DX8_readWhole 19 rfl) rfl (by decide) (go_aload_n (eD DX8_readWhole 20 rfl) rfl rfl (go_callV (ci := 8) [] (eD DX8_readWhole 21 rfl) ⟨eMem 5 237 rfl rfl, sX8_goOn⟩ ⟨Nat.le_of_ble_eq_true rfl, Nat.le_of_ble_eq_true rfl⟩ (by decide) ⟨rfl, by decide, _, rfl, rfl⟩ rfl rfl (Nat.le_of_ble_eq_true rfl) (y_goOnF w hf) (go_iload_n (eD DX8_readWhole 22 rfl) rfl rfl (go_iret (eD DX8_readWhole 23 rfl) rfl))))))
  · refine go_if_neF (tgt := 33) (eD DX8_readWhole 13 rfl) rfl (eI_pI _) (not_not_intro (pI0 h1)) ?_
    refine go_aload_n (eD DX8_readWhole 14 rfl) rfl rfl (go_iconst (eD DX8_readWhole 15 rfl) (?_))
    refine go_callV (ci := 8) [(0, 2)] (eD DX8_readWhole 16 rfl) ⟨eMem 6 25 rfl rfl, sX8_flaw⟩ ⟨Nat.le_of_ble_eq_true rfl, Nat.le_of_ble_eq_true rfl⟩ (by decide) ⟨rfl, by decide, _, rfl, rfl⟩ rfl rfl (Nat.le_of_ble_eq_true rfl) (Cal.as (zX8_flaw w 2  (by first | assumption | omega)) (r2 := none) (w2 := w) rfl (by (try simp only [wX8_flaw, if_pos a1, if_pos a2, if_neg h1]) <;> (try rfl))) (?_)
    rw [(k2 h1).1, (k2 h1).2]
    exact go_aload_n (eD DX8_readWhole 17 rfl) rfl rfl (go_getI (kz := 12) (eD DX8_readWhole 18 rfl) fX8_141 (by decide) rfl rfl rfl (go_istore_n (eD DX8_readWhole 19 rfl) rfl (by decide) (go_aload_n (eD DX8_readWhole 20 rfl) rfl rfl (go_callV (ci := 8) [] (eD DX8_readWhole 21 rfl) ⟨eMem 5 237 rfl rfl, sX8_goOn⟩ ⟨Nat.le_of_ble_eq_true rfl, Nat.le_of_ble_eq_true rfl⟩ (by decide) ⟨rfl, by decide, _, rfl, rfl⟩ rfl rfl (Nat.le_of_ble_eq_true rfl) (y_goOnF w hf) (go_iload_n (eD DX8_readWhole 22 rfl) rfl rfl (go_iret (eD DX8_readWhole 23 rfl) rfl))))))
set_option maxHeartbeats 4000000 in
set_option maxRecDepth 20000 in
theorem tX8_readWholeFN_0 {r : Option eV} {w9 : eW} (w : eW) (a b : Int) (hf : 1 ≤ w 33 7 ∧ w 33 7 ≤ 5) (hk : ¬ w 33 9 = 3) (hk2 : eI (w 33 9)) (k1 : r = some (0, w 33 12) ∧ w9 = w) : Go mX8_readWhole 0 [(0, eR 33), (1, (0, a)), (2, (0, b))] [] w r w9 := by
  have a1 : 0 < (w 33 7) := by omega
  have a2 : ¬ ((w 33 9) = 3) := by omega
  refine go_aload_n (eD DX8_readWhole 0 rfl) rfl rfl (go_getI (kz := 9) (eD DX8_readWhole 1 rfl) fX8_123 (by decide) rfl rfl rfl (go_iconst (eD DX8_readWhole 2 rfl) (go_icmp_eqF (tgt := 16) (eD DX8_readWhole 3 rfl) rfl (show eI (w 33 9) from by omega) (by decide) a2 (?_))))
  refine go_aload_n (eD DX8_readWhole 4 rfl) rfl rfl (go_iconst (eD DX8_readWhole 5 rfl) (?_))
  refine go_callV (ci := 8) [(0, 1)] (eD DX8_readWhole 6 rfl) ⟨eMem 6 25 rfl rfl, sX8_flaw⟩ ⟨Nat.le_of_ble_eq_true rfl, Nat.le_of_ble_eq_true rfl⟩ (by decide) ⟨rfl, by decide, _, rfl, rfl⟩ rfl rfl (Nat.le_of_ble_eq_true rfl) (Cal.as (zX8_flaw w 1  (by first | assumption | omega)) (r2 := none) (w2 := w) rfl (by (try simp only [wX8_flaw, if_pos a1, if_neg a2]) <;> (try rfl))) (?_)
  rw [(k1).1, (k1).2]
  exact go_goto (tgt := 33) (eD DX8_readWhole 7 rfl) rfl (go_aload_n (eD DX8_readWhole 17 rfl) rfl rfl (go_getI (kz := 12) (eD DX8_readWhole 18 rfl) fX8_141 (by decide) rfl rfl rfl (go_istore_n (eD DX8_readWhole 19 rfl) rfl (by decide) (go_aload_n (eD DX8_readWhole 20 rfl) rfl rfl (go_callV (ci := 8) [] (eD DX8_readWhole 21 rfl) ⟨eMem 5 237 rfl rfl, sX8_goOn⟩ ⟨Nat.le_of_ble_eq_true rfl, Nat.le_of_ble_eq_true rfl⟩ (by decide) ⟨rfl, by decide, _, rfl, rfl⟩ rfl rfl (Nat.le_of_ble_eq_true rfl) (y_goOnF w hf) (go_iload_n (eD DX8_readWhole 22 rfl) rfl rfl (go_iret (eD DX8_readWhole 23 rfl) rfl)))))))
set_option maxHeartbeats 4000000 in
set_option maxRecDepth 20000 in
theorem tX8_comma_0 {r : Option eV} {w9 : eW} (w : eW) {w1 : eW} (hf : w 33 7 = 0) (g1 : Cal mX8_isSign [eR 33, (0, 44)] w (some (0, 1)) w) (g : Cal mX8_goOn [eR 33] w none w1) (k1 : r = none ∧ w9 = w1) : Go mX8_comma 0 [(0, eR 33)] [] w r w9 := by
  have a1 : ¬ (0 < (w 33 7)) := by omega
  refine go_aload_n (eD DX8_comma 0 rfl) rfl rfl (go_bipush (eD DX8_comma 1 rfl) (by decide) (go_callV (ci := 8) [(0, 44)] (eD DX8_comma 2 rfl) ⟨eMem 6 33 rfl rfl, sX8_isSign⟩ ⟨Nat.le_of_ble_eq_true rfl, Nat.le_of_ble_eq_true rfl⟩ (by decide) ⟨rfl, by decide, _, rfl, rfl⟩ rfl rfl (Nat.le_of_ble_eq_true rfl) g1 (go_if_neT (tgt := 14) (eD DX8_comma 3 rfl) rfl (by decide) (show ¬ ((1 : Int) = 0) from by decide) (?_))))
  rw [(k1).1, (k1).2]
  exact go_aload_n (eD DX8_comma 7 rfl) rfl rfl (go_callV (ci := 8) [] (eD DX8_comma 8 rfl) ⟨eMem 5 237 rfl rfl, sX8_goOn⟩ ⟨Nat.le_of_ble_eq_true rfl, Nat.le_of_ble_eq_true rfl⟩ (by decide) ⟨rfl, by decide, _, rfl, rfl⟩ rfl rfl (Nat.le_of_ble_eq_true rfl) g (go_vret (eD DX8_comma 9 rfl) rfl))
set_option maxHeartbeats 4000000 in
set_option maxRecDepth 20000 in
theorem tX8_commaN_0 {r : Option eV} {w9 : eW} (w : eW) (hf : w 33 7 = 0) (g1 : Cal mX8_isSign [eR 33, (0, 44)] w (some (0, 0)) w) (k1 : r = none ∧ w9 = (eU (eU w 33 7 1) 33 8 (w 33 10))) : Go mX8_comma 0 [(0, eR 33)] [] w r w9 := by
  have a1 : ¬ (0 < (w 33 7)) := by omega
  refine go_aload_n (eD DX8_comma 0 rfl) rfl rfl (go_bipush (eD DX8_comma 1 rfl) (by decide) (go_callV (ci := 8) [(0, 44)] (eD DX8_comma 2 rfl) ⟨eMem 6 33 rfl rfl, sX8_isSign⟩ ⟨Nat.le_of_ble_eq_true rfl, Nat.le_of_ble_eq_true rfl⟩ (by decide) ⟨rfl, by decide, _, rfl, rfl⟩ rfl rfl (Nat.le_of_ble_eq_true rfl) g1 (go_if_neF (tgt := 14) (eD DX8_comma 3 rfl) rfl (by decide) (not_not_intro (show (0 : Int) = 0 from by decide)) (?_))))
  refine go_aload_n (eD DX8_comma 4 rfl) rfl rfl (go_iconst (eD DX8_comma 5 rfl) (?_))
  refine go_callV (ci := 8) [(0, 1)] (eD DX8_comma 6 rfl) ⟨eMem 6 25 rfl rfl, sX8_flaw⟩ ⟨Nat.le_of_ble_eq_true rfl, Nat.le_of_ble_eq_true rfl⟩ (by decide) ⟨rfl, by decide, _, rfl, rfl⟩ rfl rfl (Nat.le_of_ble_eq_true rfl) (Cal.as (zX8_flaw w 1  (by first | assumption | omega)) (r2 := none) (w2 := (eU (eU w 33 7 1) 33 8 (w 33 10))) rfl (by (try simp only [wX8_flaw, if_neg a1]) <;> (try rfl))) (?_)
  rw [(k1).1, (k1).2]
  exact go_aload_n (eD DX8_comma 7 rfl) rfl rfl (go_callV (ci := 8) [] (eD DX8_comma 8 rfl) ⟨eMem 5 237 rfl rfl, sX8_goOn⟩ ⟨Nat.le_of_ble_eq_true rfl, Nat.le_of_ble_eq_true rfl⟩ (by decide) ⟨rfl, by decide, _, rfl, rfl⟩ rfl rfl (Nat.le_of_ble_eq_true rfl) (y_goOnF (eU (eU w 33 7 1) 33 8 (w 33 10)) (by first | assumption | simp [eU])) (go_vret (eD DX8_comma 9 rfl) rfl))
set_option maxHeartbeats 4000000 in
set_option maxRecDepth 20000 in
theorem tX8_commaF_0 {r : Option eV} {w9 : eW} (w : eW) (hf : 1 ≤ w 33 7 ∧ w 33 7 ≤ 5) (g1 : Cal mX8_isSign [eR 33, (0, 44)] w (some (0, 0)) w) (k1 : r = none ∧ w9 = w) : Go mX8_comma 0 [(0, eR 33)] [] w r w9 := by
  have a1 : 0 < (w 33 7) := by omega
  refine go_aload_n (eD DX8_comma 0 rfl) rfl rfl (go_bipush (eD DX8_comma 1 rfl) (by decide) (go_callV (ci := 8) [(0, 44)] (eD DX8_comma 2 rfl) ⟨eMem 6 33 rfl rfl, sX8_isSign⟩ ⟨Nat.le_of_ble_eq_true rfl, Nat.le_of_ble_eq_true rfl⟩ (by decide) ⟨rfl, by decide, _, rfl, rfl⟩ rfl rfl (Nat.le_of_ble_eq_true rfl) g1 (go_if_neF (tgt := 14) (eD DX8_comma 3 rfl) rfl (by decide) (not_not_intro (show (0 : Int) = 0 from by decide)) (?_))))
  refine go_aload_n (eD DX8_comma 4 rfl) rfl rfl (go_iconst (eD DX8_comma 5 rfl) (?_))
  refine go_callV (ci := 8) [(0, 1)] (eD DX8_comma 6 rfl) ⟨eMem 6 25 rfl rfl, sX8_flaw⟩ ⟨Nat.le_of_ble_eq_true rfl, Nat.le_of_ble_eq_true rfl⟩ (by decide) ⟨rfl, by decide, _, rfl, rfl⟩ rfl rfl (Nat.le_of_ble_eq_true rfl) (Cal.as (zX8_flaw w 1  (by first | assumption | omega)) (r2 := none) (w2 := w) rfl (by (try simp only [wX8_flaw, if_pos a1]) <;> (try rfl))) (?_)
  rw [(k1).1, (k1).2]
  exact go_aload_n (eD DX8_comma 7 rfl) rfl rfl (go_callV (ci := 8) [] (eD DX8_comma 8 rfl) ⟨eMem 5 237 rfl rfl, sX8_goOn⟩ ⟨Nat.le_of_ble_eq_true rfl, Nat.le_of_ble_eq_true rfl⟩ (by decide) ⟨rfl, by decide, _, rfl, rfl⟩ rfl rfl (Nat.le_of_ble_eq_true rfl) (y_goOnF w hf) (go_vret (eD DX8_comma 9 rfl) rfl))
