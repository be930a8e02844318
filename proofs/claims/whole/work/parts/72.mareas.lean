/-- a sum over rows, as far as the place j, i -/
def dsP (t : Int → Int → Int) (N j i : Int) : Int := sumI (fun b => sumI (fun a => t a b) 0 N) 0 j + sumI (fun a => t a j) 0 i
theorem dsP_0 (t : Int → Int → Int) (N : Int) : dsP t N 0 0 = 0 := by unfold dsP; rw [sumI_self, sumI_self]; rfl
theorem dsP_i {t : Int → Int → Int} {N j i : Int} (h : 0 ≤ i) : dsP t N j (i + 1) = dsP t N j i + t i j := by
  unfold dsP
  rw [sumI_succ (fun a => t a j) h]
  omega
theorem dsP_j {t : Int → Int → Int} {N j : Int} (h : 0 ≤ j) : dsP t N (j + 1) 0 = dsP t N j N := by
  unfold dsP
  rw [sumI_succ (fun b => sumI (fun a => t a b) 0 N) h, sumI_self]
  omega
theorem dsP_all (t : Int → Int → Int) (N M : Int) : dsP t N M 0 = sumI (fun b => sumI (fun a => t a b) 0 N) 0 M := by
  unfold dsP
  rw [sumI_self]
  omega
theorem dsP_b {t : Int → Int → Int} {N M j i B : Int} (hN : 0 ≤ N ∧ N ≤ 30) (hM : M ≤ 30) (hj : 0 ≤ j ∧ j ≤ M) (hi : 0 ≤ i ∧ i ≤ N) (hB : 0 ≤ B) (hij : j < M ∨ i = 0) (ht : ∀ a b, 0 ≤ a → a < N → 0 ≤ b → b < M → 0 ≤ t a b ∧ t a b ≤ B) : 0 ≤ dsP t N j i ∧ dsP t N j i ≤ 930 * B := by
  have e1 : 0 ≤ sumI (fun a => t a j) 0 i ∧ sumI (fun a => t a j) 0 i ≤ 30 * B := by
    by_cases h0 : i = 0
    · rw [h0, sumI_self]; omega
    · have := sumI_bound (f := fun a => t a j) (a := 0) (b := i) (lo := 0) (hi := B) hi.1 (fun a z1 z2 => ht a j z1 (by omega) hj.1 (by omega))
      have l2 : (i - 0) * B ≤ 30 * B := Int.mul_le_mul_of_nonneg_right (by omega) hB
      rw [Int.mul_zero] at this
      omega
  have e2 := sumI_bound (f := fun b => sumI (fun a => t a b) 0 N) (a := 0) (b := j) (lo := 0) (hi := 30 * B) hj.1 (fun b z1 z2 => by
    have := sumI_bound (f := fun a => t a b) (a := 0) (b := N) (lo := 0) (hi := B) hN.1 (fun a y1 y2 => ht a b y1 y2 z1 (by omega))
    have l2 : (N - 0) * B ≤ 30 * B := Int.mul_le_mul_of_nonneg_right (by omega) hB
    rw [Int.mul_zero] at this
    show 0 ≤ sumI (fun a => t a b) 0 N ∧ sumI (fun a => t a b) 0 N ≤ 30 * B
    omega)
  have l3 : (j - 0) * (30 * B) ≤ 30 * (30 * B) := Int.mul_le_mul_of_nonneg_right (by omega) (by omega)
  rw [Int.mul_zero] at e2
  unfold dsP
  omega
theorem q_wid {a b c d : Int} (h1 : 0 ≤ a ∧ a ≤ 600000) (h2 : 0 ≤ b ∧ b ≤ 600000) : 0 ≤ a * b ∧ a * b ≤ 360000000000 := by
  have := Int.mul_nonneg h1.1 h2.1
  have := Int.mul_le_mul h1.2 h2.2 h2.1 (by decide)
  omega
set_option maxHeartbeats 4000000 in
set_option maxRecDepth 20000 in
theorem tX8_area_0 {r : Option eV} {w9 : eW} (w : eW) (a b what : Int) {w1 : eW} (hM : MB w) (ha : eI a) (hb : eI b) (hw : eI what) (g1 : 0 ≤ a ∧ a ≤ 9999 ∧ 1 ≤ b ∧ b ≤ 9999 → Cal mX8_lays [eR 33, (0, a), (0, b)] (eU w 33 0 0) none w1) (k1 : (w 33 28) = 0 → r = some (1, (-1)) ∧ w9 = (eU (eU (eU w 33 0 0) 33 1 1) 33 2 (-1))) (k2 : ¬ ((w 33 28) = 0) → 0 ≤ what ∧ what ≤ 1 → 0 ≤ a ∧ a ≤ 9999 ∧ 1 ≤ b ∧ b ≤ 9999 → Go mX8_area 55 [(0, eR 33), (2, (0, b)), (3, (0, what)), (4, (1, 0)), (6, (0, 0))] [] w1 r w9) (k3 : ¬ ((w 33 28) = 0) → 0 ≤ what ∧ what ≤ 1 → ¬ (0 ≤ a ∧ a ≤ 9999 ∧ 1 ≤ b ∧ b ≤ 9999) → r = some (1, (-1)) ∧ w9 = (eU (eU (eU w 33 0 0) 33 1 2) 33 2 (-1))) (k4 : ¬ ((w 33 28) = 0) → ¬ (0 ≤ what ∧ what ≤ 1) → r = some (1, (-1)) ∧ w9 = (eU (eU (eU w 33 0 0) 33 1 1) 33 2 (-1))) : Go mX8_area 0 [(0, eR 33), (1, (0, a)), (2, (0, b)), (3, (0, what))] [] w r w9 := by
  obtain ⟨⟨c1, c2, c3, c4, c5, c6, c7, c8, c9, c10⟩, c11, c12, c13⟩ := id hM
  refine go_aload_n (eD DX8_area 0 rfl) rfl rfl (go_iconst (eD DX8_area 1 rfl) (go_putI (kz := 0) (eD DX8_area 2 rfl) fX8_95 (by decide) rfl rfl (fun q h => by cases h; exact ⟨rfl, rfl⟩) rfl (go_aload_n (eD DX8_area 3 rfl) rfl rfl (go_getI (kz := 28) (eD DX8_area 4 rfl) fX8_228 (by decide) rfl rfl rfl (?_)))))
  by_cases h1 : (w 33 28) = 0
  · refine go_if_eqT (tgt := 21) (eD DX8_area 5 rfl) rfl (show eI (w 33 28) from by omega) h1 ?_
    refine go_aload_n (eD DX8_area 11 rfl) rfl rfl (go_iconst (eD DX8_area 12 rfl) (?_))
    refine go_callV (ci := 8) [(0, 1)] (eD DX8_area 13 rfl) ⟨eMem 5 233 rfl rfl, sX8_refused⟩ ⟨Nat.le_of_ble_eq_true rfl, Nat.le_of_ble_eq_true rfl⟩ (by decide) ⟨rfl, by decide, _, rfl, rfl⟩ rfl rfl (Nat.le_of_ble_eq_true rfl) (Cal.as (zX8_refused (eU w 33 0 0) 1  ) (r2 := some (0, (-1))) (w2 := (eU (eU (eU w 33 0 0) 33 1 1) 33 2 (-1))) (by (try simp only [rX8_refused, if_pos h1]) <;> (try rfl)) (by (try simp only [wX8_refused, if_pos h1]) <;> (try rfl))) (?_)
    rw [(k1 h1).1, (k1 h1).2]
    exact go_i2l (eD DX8_area 14 rfl) (by decide) (go_lret (eD DX8_area 15 rfl) rfl)
  · refine go_if_eqF (tgt := 21) (eD DX8_area 5 rfl) rfl (show eI (w 33 28) from by omega) h1 ?_
    refine go_iload_n (eD DX8_area 6 rfl) rfl rfl (go_iconst (eD DX8_area 7 rfl) (go_iconst (eD DX8_area 8 rfl) (go_callS [(0, what), (0, 0), (0, 1)] (eD DX8_area 9 rfl) ⟨eMem 5 230 rfl rfl, sX8_in⟩ ⟨Nat.le_of_ble_eq_true rfl, Nat.le_of_ble_eq_true rfl⟩ rfl rfl (Nat.le_of_ble_eq_true rfl) (y_b_X8_in (eU w 33 0 0) what 0 1 (by omega) (by decide) (by decide) ) (?_))))
    by_cases h2 : 0 ≤ what ∧ what ≤ 1
    · refine go_if_neT (tgt := 28) (eD DX8_area 10 rfl) rfl (eI_pI _) (pI1 h2) ?_
      refine go_iload_n (eD DX8_area 16 rfl) rfl rfl (go_iload_n (eD DX8_area 17 rfl) rfl rfl (go_callS [(0, a), (0, b)] (eD DX8_area 18 rfl) ⟨eMem 7 1 rfl rfl, sX8_isTime⟩ ⟨Nat.le_of_ble_eq_true rfl, Nat.le_of_ble_eq_true rfl⟩ rfl rfl (Nat.le_of_ble_eq_true rfl) (y_b_X8_isTime (eU w 33 0 0) a b (by omega) (by omega) ) (?_)))
      by_cases h3 : 0 ≤ a ∧ a ≤ 9999 ∧ 1 ≤ b ∧ b ≤ 9999
      · refine go_if_neT (tgt := 43) (eD DX8_area 19 rfl) rfl (eI_pI _) (pI1 h3) ?_
        exact go_aload_n (eD DX8_area 25 rfl) rfl rfl (go_iload_n (eD DX8_area 26 rfl) rfl rfl (go_iload_n (eD DX8_area 27 rfl) rfl rfl (go_callV (ci := 8) [(0, a), (0, b)] (eD DX8_area 28 rfl) ⟨eMem 6 109 rfl rfl, sX8_lays⟩ ⟨Nat.le_of_ble_eq_true rfl, Nat.le_of_ble_eq_true rfl⟩ (by decide) ⟨rfl, by decide, _, rfl, rfl⟩ rfl rfl (Nat.le_of_ble_eq_true rfl) (g1 (by assumption)) (go_lconst (n := 0) (eD DX8_area 29 rfl) rfl (go_lstore (eD DX8_area 30 rfl) (by decide) (go_iconst (eD DX8_area 31 rfl) (go_istore (eD DX8_area 32 rfl) (by decide) (Go.pick [2, 4, 5, 1, 0] rfl (k2 h1 h2 h3)))))))))
      · refine go_if_neF (tgt := 43) (eD DX8_area 19 rfl) rfl (eI_pI _) (not_not_intro (pI0 h3)) ?_
        refine go_aload_n (eD DX8_area 20 rfl) rfl rfl (go_iconst (eD DX8_area 21 rfl) (?_))
        refine go_callV (ci := 8) [(0, 2)] (eD DX8_area 22 rfl) ⟨eMem 5 233 rfl rfl, sX8_refused⟩ ⟨Nat.le_of_ble_eq_true rfl, Nat.le_of_ble_eq_true rfl⟩ (by decide) ⟨rfl, by decide, _, rfl, rfl⟩ rfl rfl (Nat.le_of_ble_eq_true rfl) (Cal.as (zX8_refused (eU w 33 0 0) 2  ) (r2 := some (0, (-1))) (w2 := (eU (eU (eU w 33 0 0) 33 1 2) 33 2 (-1))) (by (try simp only [rX8_refused, if_neg h1, if_pos h2, if_neg h3]) <;> (try rfl)) (by (try simp only [wX8_refused, if_neg h1, if_pos h2, if_neg h3]) <;> (try rfl))) (?_)
        rw [(k3 h1 h2 h3).1, (k3 h1 h2 h3).2]
        exact go_i2l (eD DX8_area 23 rfl) (by decide) (go_lret (eD DX8_area 24 rfl) rfl)
    · refine go_if_neF (tgt := 28) (eD DX8_area 10 rfl) rfl (eI_pI _) (not_not_intro (pI0 h2)) ?_
      refine go_aload_n (eD DX8_area 11 rfl) rfl rfl (go_iconst (eD DX8_area 12 rfl) (?_))
      refine go_callV (ci := 8) [(0, 1)] (eD DX8_area 13 rfl) ⟨eMem 5 233 rfl rfl, sX8_refused⟩ ⟨Nat.le_of_ble_eq_true rfl, Nat.le_of_ble_eq_true rfl⟩ (by decide) ⟨rfl, by decide, _, rfl, rfl⟩ rfl rfl (Nat.le_of_ble_eq_true rfl) (Cal.as (zX8_refused (eU w 33 0 0) 1  ) (r2 := some (0, (-1))) (w2 := (eU (eU (eU w 33 0 0) 33 1 1) 33 2 (-1))) (by (try simp only [rX8_refused, if_neg h1, if_neg h2]) <;> (try rfl)) (by (try simp only [wX8_refused, if_neg h1, if_neg h2]) <;> (try rfl))) (?_)
      rw [(k4 h1 h2).1, (k4 h1 h2).2]
      exact go_i2l (eD DX8_area 14 rfl) (by decide) (go_lret (eD DX8_area 15 rfl) rfl)
set_option maxHeartbeats 4000000 in
set_option maxRecDepth 20000 in
theorem tX8_area_55 {r : Option eV} {w9 : eW} (w : eW) (b what sm j : Int) (hb : 1 ≤ b ∧ b ≤ 9999) (hc : (1 ≤ w 33 42 ∧ w 33 42 ≤ 30) ∧ 1 ≤ w 33 43 ∧ w 33 43 ≤ 30) (hw : eI what) (hj : 0 ≤ j ∧ j ≤ 30) (hs : 0 ≤ sm ∧ sm < 4611686018427387904) (k1 : (j + 1) < (w 33 43) → Go mX8_area 69 [(0, eR 33), (2, (0, b)), (3, (0, what)), (4, (1, sm)), (6, (0, j)), (7, (0, 0))] [] w r w9) (k2 : ¬ ((j + 1) < (w 33 43)) → what = 0 → r = some (1, sm / (gI sm (b * b))) ∧ w9 = (eU (eU w 33 1 0) 33 2 (-1))) (k3 : ¬ ((j + 1) < (w 33 43)) → ¬ (what = 0) → r = some (1, (b * b) / (gI sm (b * b))) ∧ w9 = (eU (eU w 33 1 0) 33 2 (-1))) : Go mX8_area 55 [(0, eR 33), (2, (0, b)), (3, (0, what)), (4, (1, sm)), (6, (0, j))] [] w r w9 := by
  have hbb : 1 * 1 ≤ b * b := Int.mul_le_mul (by omega) (by omega) (by omega) (by omega)
  have hbc : b * b ≤ 9999 * 9999 := Int.mul_le_mul (by omega) (by omega) (by omega) (by omega)
  have hg := gI_pos (a := sm) (b := b * b) (by omega)
  have hl := gI_le (a := sm) (b := b * b) (by omega)
  refine go_iload (eD DX8_area 33 rfl) rfl (go_iconst (eD DX8_area 34 rfl) (go_iadd (eD DX8_area 35 rfl) (go_aload_n (eD DX8_area 36 rfl) rfl rfl (go_getI (kz := 43) (eD DX8_area 37 rfl) fX8_283 (by decide) rfl rfl rfl (?_)))))
  by_cases h1 : (j + 1) < (w 33 43)
  · refine go_icmp_geF (tgt := 150) (eD DX8_area 38 rfl) rfl (by omega) (show eI (w 33 43) from by omega) (Int.not_le.mpr h1) ?_
    exact go_iconst (eD DX8_area 39 rfl) (go_istore (eD DX8_area 40 rfl) (by decide) (Go.pick [1, 2, 3, 4, 5, 0] rfl (k1 h1)))
  · refine go_icmp_geT (tgt := 150) (eD DX8_area 38 rfl) rfl (by omega) (show eI (w 33 43) from by omega) (Int.not_lt.mp h1) ?_
    refine go_lload (eD DX8_area 88 rfl) rfl (go_iload_n (eD DX8_area 89 rfl) rfl rfl (go_i2l (eD DX8_area 90 rfl) (by omega) (go_iload_n (eD DX8_area 91 rfl) rfl rfl (go_i2l (eD DX8_area 92 rfl) (by omega) (go_lmul (eD DX8_area 93 rfl) (go_callS [(1, sm), (1, b * b)] (eD DX8_area 94 rfl) ⟨eMem 6 186 rfl rfl, sX8_common⟩ ⟨Nat.le_of_ble_eq_true rfl, Nat.le_of_ble_eq_true rfl⟩ rfl rfl (Nat.le_of_ble_eq_true rfl) (y_X8_common w sm (b * b) (by omega) (by omega)) (go_lstore (eD DX8_area 95 rfl) (by decide) (go_aload_n (eD DX8_area 96 rfl) rfl rfl (go_iload_n (eD DX8_area 97 rfl) rfl rfl (?_))))))))))
    by_cases h2 : what = 0
    · refine go_if_neF (tgt := 172) (eD DX8_area 98 rfl) rfl (by omega) (not_not_intro h2) ?_
      refine go_lload (eD DX8_area 99 rfl) rfl (go_goto (tgt := 177) (eD DX8_area 100 rfl) rfl (go_lload (eD DX8_area 106 rfl) rfl (go_ldiv (eD DX8_area 107 rfl) (by omega) (by omega) (by omega) (by omega) (?_))))
      refine go_callV (ci := 8) [(1, sm / (gI sm (b * b)))] (eD DX8_area 108 rfl) ⟨eMem 7 12 rfl rfl, sX8_says⟩ ⟨Nat.le_of_ble_eq_true rfl, Nat.le_of_ble_eq_true rfl⟩ (by decide) ⟨rfl, by decide, _, rfl, rfl⟩ rfl rfl (Nat.le_of_ble_eq_true rfl) (Cal.as (zX8_says w (sm / (gI sm (b * b)))  ) (r2 := some (1, sm / (gI sm (b * b)))) (w2 := (eU (eU w 33 1 0) 33 2 (-1))) (by (try simp only [rX8_says, if_neg h1, if_pos h2]) <;> (try rfl)) (by (try simp only [wX8_says, if_neg h1, if_pos h2]) <;> (try rfl))) (?_)
      rw [(k2 h1 h2).1, (k2 h1 h2).2]
      exact go_lret (eD DX8_area 109 rfl) rfl
    · refine go_if_neT (tgt := 172) (eD DX8_area 98 rfl) rfl (by omega) h2 ?_
      refine go_iload_n (eD DX8_area 101 rfl) rfl rfl (go_i2l (eD DX8_area 102 rfl) (by omega) (go_iload_n (eD DX8_area 103 rfl) rfl rfl (go_i2l (eD DX8_area 104 rfl) (by omega) (go_lmul (eD DX8_area 105 rfl) (go_lload (eD DX8_area 106 rfl) rfl (go_ldiv (eD DX8_area 107 rfl) (by omega) (by omega) (by omega) (by omega) (?_)))))))
      refine go_callV (ci := 8) [(1, (b * b) / (gI sm (b * b)))] (eD DX8_area 108 rfl) ⟨eMem 7 12 rfl rfl, sX8_says⟩ ⟨Nat.le_of_ble_eq_true rfl, Nat.le_of_ble_eq_true rfl⟩ (by decide) ⟨rfl, by decide, _, rfl, rfl⟩ rfl rfl (Nat.le_of_ble_eq_true rfl) (Cal.as (zX8_says w ((b * b) / (gI sm (b * b)))  ) (r2 := some (1, (b * b) / (gI sm (b * b)))) (w2 := (eU (eU w 33 1 0) 33 2 (-1))) (by (try simp only [rX8_says, if_neg h1, if_neg h2]) <;> (try rfl)) (by (try simp only [wX8_says, if_neg h1, if_neg h2]) <;> (try rfl))) (?_)
      rw [(k3 h1 h2).1, (k3 h1 h2).2]
      exact go_lret (eD DX8_area 109 rfl) rfl
set_option maxHeartbeats 4000000 in
set_option maxRecDepth 20000 in
theorem tX8_area_69 {r : Option eV} {w9 : eW} (w : eW) (b what sm j k : Int) (hc : (1 ≤ w 33 42 ∧ w 33 42 ≤ 30) ∧ 1 ≤ w 33 43 ∧ w 33 43 ≤ 30) (hj : 0 ≤ j ∧ j + 1 < 30) (hk : 0 ≤ k ∧ k ≤ 30) (hl : k + 1 < w 33 42 → eI (w 51 (30 * j + k)) ∧ (-300000 ≤ w 45 k ∧ w 45 k ≤ 300000) ∧ (-300000 ≤ w 45 (k + 1) ∧ w 45 (k + 1) ≤ 300000) ∧ (-300000 ≤ w 48 j ∧ w 48 j ≤ 300000) ∧ (-300000 ≤ w 48 (j + 1) ∧ w 48 (j + 1) ≤ 300000)) (k1 : (k + 1) < (w 33 42) → (w 51 ((30 * j) + k)) < 0 → Go mX8_area 69 [(0, eR 33), (2, (0, b)), (3, (0, what)), (4, (1, sm)), (6, (0, j)), (7, (0, k + 1))] [] w r w9) (k2 : (k + 1) < (w 33 42) → ¬ ((w 51 ((30 * j) + k)) < 0) → Go mX8_area 69 [(0, eR 33), (2, (0, b)), (3, (0, what)), (4, (1, sm + (((w 45 (k + 1)) - (w 45 k)) * ((w 48 (j + 1)) - (w 48 j))))), (6, (0, j)), (7, (0, k + 1))] [] w r w9) (k3 : ¬ ((k + 1) < (w 33 42)) → Go mX8_area 55 [(0, eR 33), (2, (0, b)), (3, (0, what)), (4, (1, sm)), (6, (0, j + 1))] [] w r w9) : Go mX8_area 69 [(0, eR 33), (2, (0, b)), (3, (0, what)), (4, (1, sm)), (6, (0, j)), (7, (0, k))] [] w r w9 := by
  refine go_iload (eD DX8_area 41 rfl) rfl (go_iconst (eD DX8_area 42 rfl) (go_iadd (eD DX8_area 43 rfl) (go_aload_n (eD DX8_area 44 rfl) rfl rfl (go_getI (kz := 42) (eD DX8_area 45 rfl) fX8_280 (by decide) rfl rfl rfl (?_)))))
  by_cases h1 : (k + 1) < (w 33 42)
  · refine go_icmp_geF (tgt := 144) (eD DX8_area 46 rfl) rfl (by omega) (show eI (w 33 42) from by omega) (Int.not_le.mpr h1) ?_
    refine go_aload_n (eD DX8_area 47 rfl) rfl rfl (go_getR (t := 51) (eD DX8_area 48 rfl) fX8_65 (by decide) rfl ⟨rfl, rfl⟩ (go_bipush (eD DX8_area 49 rfl) (by decide) (go_iload (eD DX8_area 50 rfl) rfl (go_imul (eD DX8_area 51 rfl) (go_iload (eD DX8_area 52 rfl) rfl (go_iadd (eD DX8_area 53 rfl) (go_iald (n := 900) (eD DX8_area 54 rfl) (by decide) rfl (by omega) (?_))))))))
    by_cases h2 : (w 51 ((30 * j) + k)) < 0
    · refine go_if_ltT (tgt := 138) (eD DX8_area 55 rfl) rfl (show eI (w 51 ((30 * j) + k)) from by omega) h2 ?_
      exact go_iinc (eD DX8_area 84 rfl) rfl (by decide) (go_goto (tgt := 69) (eD DX8_area 85 rfl) rfl (Go.pick [1, 2, 3, 4, 5, 0] rfl (k1 h1 h2)))
    · refine go_if_ltF (tgt := 138) (eD DX8_area 55 rfl) rfl (show eI (w 51 ((30 * j) + k)) from by omega) h2 ?_
      exact go_lload (eD DX8_area 56 rfl) rfl (go_aload_n (eD DX8_area 57 rfl) rfl rfl (go_getR (t := 45) (eD DX8_area 58 rfl) fX8_47 (by decide) rfl ⟨rfl, rfl⟩ (go_iload (eD DX8_area 59 rfl) rfl (go_iconst (eD DX8_area 60 rfl) (go_iadd (eD DX8_area 61 rfl) (go_iald (n := 30) (eD DX8_area 62 rfl) (by decide) rfl (by omega) (go_aload_n (eD DX8_area 63 rfl) rfl rfl (go_getR (t := 45) (eD DX8_area 64 rfl) fX8_47 (by decide) rfl ⟨rfl, rfl⟩ (go_iload (eD DX8_area 65 rfl) rfl (go_iald (n := 30) (eD DX8_area 66 rfl) (by decide) rfl (by omega) (go_isub (eD DX8_area 67 rfl) (go_i2l (eD DX8_area 68 rfl) (show eI ((w 45 (k + 1)) - (w 45 k)) from by omega) (go_aload_n (eD DX8_area 69 rfl) rfl rfl (go_getR (t := 48) (eD DX8_area 70 rfl) fX8_56 (by decide) rfl ⟨rfl, rfl⟩ (go_iload (eD DX8_area 71 rfl) rfl (go_iconst (eD DX8_area 72 rfl) (go_iadd (eD DX8_area 73 rfl) (go_iald (n := 30) (eD DX8_area 74 rfl) (by decide) rfl (by omega) (go_aload_n (eD DX8_area 75 rfl) rfl rfl (go_getR (t := 48) (eD DX8_area 76 rfl) fX8_56 (by decide) rfl ⟨rfl, rfl⟩ (go_iload (eD DX8_area 77 rfl) rfl (go_iald (n := 30) (eD DX8_area 78 rfl) (by decide) rfl (by omega) (go_isub (eD DX8_area 79 rfl) (go_i2l (eD DX8_area 80 rfl) (show eI ((w 48 (j + 1)) - (w 48 j)) from by omega) (go_lmul (eD DX8_area 81 rfl) (go_ladd (eD DX8_area 82 rfl) (go_lstore (eD DX8_area 83 rfl) (by decide) (go_iinc (eD DX8_area 84 rfl) rfl (by decide) (go_goto (tgt := 69) (eD DX8_area 85 rfl) rfl (Go.pick [2, 3, 4, 1, 5, 0] rfl (k2 h1 h2)))))))))))))))))))))))))))))))
  · refine go_icmp_geT (tgt := 144) (eD DX8_area 46 rfl) rfl (by omega) (show eI (w 33 42) from by omega) (Int.not_lt.mp h1) ?_
    exact go_iinc (eD DX8_area 86 rfl) rfl (by decide) (go_goto (tgt := 55) (eD DX8_area 87 rfl) rfl (Go.pick [1, 2, 3, 4, 0] rfl (k3 h1)))
set_option maxHeartbeats 4000000 in
set_option maxRecDepth 20000 in
theorem tX8_piece_0 {r : Option eV} {w9 : eW} (w : eW) (a b i what : Int) {w1 : eW} (hM : MB w) (ha : eI a) (hb : eI b) (hw : eI what) (hi : eI i) (hn : eI (w1 33 44)) (g1 : 0 ≤ a ∧ a ≤ 9999 ∧ 1 ≤ b ∧ b ≤ 9999 → Cal mX8_lays [eR 33, (0, a), (0, b)] (eU w 33 0 0) none w1) (k1 : (w 33 28) = 0 → r = some (1, (-1)) ∧ w9 = (eU (eU (eU w 33 0 0) 33 1 1) 33 2 (-1))) (k2 : ¬ ((w 33 28) = 0) → i < 0 → r = some (1, (-1)) ∧ w9 = (eU (eU (eU w 33 0 0) 33 1 1) 33 2 (-1))) (k3 : ¬ ((w 33 28) = 0) → ¬ (i < 0) → 0 ≤ what ∧ what ≤ 1 → 0 ≤ a ∧ a ≤ 9999 ∧ 1 ≤ b ∧ b ≤ 9999 → i < (w1 33 44) → Go mX8_piece 75 [(0, eR 33), (2, (0, b)), (3, (0, i)), (4, (0, what)), (5, (1, 0)), (7, (0, 0))] [] w1 r w9) (k4 : ¬ ((w 33 28) = 0) → ¬ (i < 0) → 0 ≤ what ∧ what ≤ 1 → 0 ≤ a ∧ a ≤ 9999 ∧ 1 ≤ b ∧ b ≤ 9999 → ¬ (i < (w1 33 44)) → r = some (1, (-1)) ∧ w9 = (eU (eU w1 33 1 1) 33 2 (-1))) (k5 : ¬ ((w 33 28) = 0) → ¬ (i < 0) → 0 ≤ what ∧ what ≤ 1 → ¬ (0 ≤ a ∧ a ≤ 9999 ∧ 1 ≤ b ∧ b ≤ 9999) → r = some (1, (-1)) ∧ w9 = (eU (eU (eU w 33 0 0) 33 1 2) 33 2 (-1))) (k6 : ¬ ((w 33 28) = 0) → ¬ (i < 0) → ¬ (0 ≤ what ∧ what ≤ 1) → r = some (1, (-1)) ∧ w9 = (eU (eU (eU w 33 0 0) 33 1 1) 33 2 (-1))) : Go mX8_piece 0 [(0, eR 33), (1, (0, a)), (2, (0, b)), (3, (0, i)), (4, (0, what))] [] w r w9 := by
  obtain ⟨⟨c1, c2, c3, c4, c5, c6, c7, c8, c9, c10⟩, c11, c12, c13⟩ := id hM
  refine go_aload_n (eD DX8_piece 0 rfl) rfl rfl (go_iconst (eD DX8_piece 1 rfl) (go_putI (kz := 0) (eD DX8_piece 2 rfl) fX8_95 (by decide) rfl rfl (fun q h => by cases h; exact ⟨rfl, rfl⟩) rfl (go_aload_n (eD DX8_piece 3 rfl) rfl rfl (go_getI (kz := 28) (eD DX8_piece 4 rfl) fX8_228 (by decide) rfl rfl rfl (?_)))))
  by_cases h1 : (w 33 28) = 0
  · refine go_if_eqT (tgt := 26) (eD DX8_piece 5 rfl) rfl (show eI (w 33 28) from by omega) h1 ?_
    refine go_aload_n (eD DX8_piece 13 rfl) rfl rfl (go_iconst (eD DX8_piece 14 rfl) (?_))
    refine go_callV (ci := 8) [(0, 1)] (eD DX8_piece 15 rfl) ⟨eMem 5 233 rfl rfl, sX8_refused⟩ ⟨Nat.le_of_ble_eq_true rfl, Nat.le_of_ble_eq_true rfl⟩ (by decide) ⟨rfl, by decide, _, rfl, rfl⟩ rfl rfl (Nat.le_of_ble_eq_true rfl) (Cal.as (zX8_refused (eU w 33 0 0) 1  ) (r2 := some (0, (-1))) (w2 := (eU (eU (eU w 33 0 0) 33 1 1) 33 2 (-1))) (by (try simp only [rX8_refused, if_pos h1]) <;> (try rfl)) (by (try simp only [wX8_refused, if_pos h1]) <;> (try rfl))) (?_)
    rw [(k1 h1).1, (k1 h1).2]
    exact go_i2l (eD DX8_piece 16 rfl) (by decide) (go_lret (eD DX8_piece 17 rfl) rfl)
  · refine go_if_eqF (tgt := 26) (eD DX8_piece 5 rfl) rfl (show eI (w 33 28) from by omega) h1 ?_
    refine go_iload_n (eD DX8_piece 6 rfl) rfl rfl (?_)
    by_cases h2 : i < 0
    · refine go_if_ltT (tgt := 26) (eD DX8_piece 7 rfl) rfl (by omega) h2 ?_
      refine go_aload_n (eD DX8_piece 13 rfl) rfl rfl (go_iconst (eD DX8_piece 14 rfl) (?_))
      refine go_callV (ci := 8) [(0, 1)] (eD DX8_piece 15 rfl) ⟨eMem 5 233 rfl rfl, sX8_refused⟩ ⟨Nat.le_of_ble_eq_true rfl, Nat.le_of_ble_eq_true rfl⟩ (by decide) ⟨rfl, by decide, _, rfl, rfl⟩ rfl rfl (Nat.le_of_ble_eq_true rfl) (Cal.as (zX8_refused (eU w 33 0 0) 1  ) (r2 := some (0, (-1))) (w2 := (eU (eU (eU w 33 0 0) 33 1 1) 33 2 (-1))) (by (try simp only [rX8_refused, if_neg h1, if_pos h2]) <;> (try rfl)) (by (try simp only [wX8_refused, if_neg h1, if_pos h2]) <;> (try rfl))) (?_)
      rw [(k2 h1 h2).1, (k2 h1 h2).2]
      exact go_i2l (eD DX8_piece 16 rfl) (by decide) (go_lret (eD DX8_piece 17 rfl) rfl)
    · refine go_if_ltF (tgt := 26) (eD DX8_piece 7 rfl) rfl (by omega) h2 ?_
      refine go_iload (eD DX8_piece 8 rfl) rfl (go_iconst (eD DX8_piece 9 rfl) (go_iconst (eD DX8_piece 10 rfl) (go_callS [(0, what), (0, 0), (0, 1)] (eD DX8_piece 11 rfl) ⟨eMem 5 230 rfl rfl, sX8_in⟩ ⟨Nat.le_of_ble_eq_true rfl, Nat.le_of_ble_eq_true rfl⟩ rfl rfl (Nat.le_of_ble_eq_true rfl) (y_b_X8_in (eU w 33 0 0) what 0 1 (by omega) (by decide) (by decide) ) (?_))))
      by_cases h3 : 0 ≤ what ∧ what ≤ 1
      · refine go_if_neT (tgt := 33) (eD DX8_piece 12 rfl) rfl (eI_pI _) (pI1 h3) ?_
        refine go_iload_n (eD DX8_piece 18 rfl) rfl rfl (go_iload_n (eD DX8_piece 19 rfl) rfl rfl (go_callS [(0, a), (0, b)] (eD DX8_piece 20 rfl) ⟨eMem 7 1 rfl rfl, sX8_isTime⟩ ⟨Nat.le_of_ble_eq_true rfl, Nat.le_of_ble_eq_true rfl⟩ rfl rfl (Nat.le_of_ble_eq_true rfl) (y_b_X8_isTime (eU w 33 0 0) a b (by omega) (by omega) ) (?_)))
        by_cases h4 : 0 ≤ a ∧ a ≤ 9999 ∧ 1 ≤ b ∧ b ≤ 9999
        · refine go_if_neT (tgt := 48) (eD DX8_piece 21 rfl) rfl (eI_pI _) (pI1 h4) ?_
          refine go_aload_n (eD DX8_piece 27 rfl) rfl rfl (go_iload_n (eD DX8_piece 28 rfl) rfl rfl (go_iload_n (eD DX8_piece 29 rfl) rfl rfl (go_callV (ci := 8) [(0, a), (0, b)] (eD DX8_piece 30 rfl) ⟨eMem 6 109 rfl rfl, sX8_lays⟩ ⟨Nat.le_of_ble_eq_true rfl, Nat.le_of_ble_eq_true rfl⟩ (by decide) ⟨rfl, by decide, _, rfl, rfl⟩ rfl rfl (Nat.le_of_ble_eq_true rfl) (g1 (by assumption)) (go_iload_n (eD DX8_piece 31 rfl) rfl rfl (go_aload_n (eD DX8_piece 32 rfl) rfl rfl (go_getI (kz := 44) (eD DX8_piece 33 rfl) fX8_294 (by decide) rfl rfl rfl (?_)))))))
          by_cases h5 : i < (w1 33 44)
          · refine go_icmp_ltT (tgt := 69) (eD DX8_piece 34 rfl) rfl (by omega) (by omega) h5 ?_
            exact go_lconst (n := 0) (eD DX8_piece 40 rfl) rfl (go_lstore (eD DX8_piece 41 rfl) (by decide) (go_iconst (eD DX8_piece 42 rfl) (go_istore (eD DX8_piece 43 rfl) (by decide) (Go.pick [2, 4, 5, 6, 1, 0] rfl (k3 h1 h2 h3 h4 h5)))))
          · refine go_icmp_ltF (tgt := 69) (eD DX8_piece 34 rfl) rfl (by omega) (by omega) h5 ?_
            refine go_aload_n (eD DX8_piece 35 rfl) rfl rfl (go_iconst (eD DX8_piece 36 rfl) (?_))
            refine go_callV (ci := 8) [(0, 1)] (eD DX8_piece 37 rfl) ⟨eMem 5 233 rfl rfl, sX8_refused⟩ ⟨Nat.le_of_ble_eq_true rfl, Nat.le_of_ble_eq_true rfl⟩ (by decide) ⟨rfl, by decide, _, rfl, rfl⟩ rfl rfl (Nat.le_of_ble_eq_true rfl) (Cal.as (zX8_refused w1 1  ) (r2 := some (0, (-1))) (w2 := (eU (eU w1 33 1 1) 33 2 (-1))) (by (try simp only [rX8_refused, if_neg h1, if_neg h2, if_pos h3, if_pos h4, if_neg h5]) <;> (try rfl)) (by (try simp only [wX8_refused, if_neg h1, if_neg h2, if_pos h3, if_pos h4, if_neg h5]) <;> (try rfl))) (?_)
            rw [(k4 h1 h2 h3 h4 h5).1, (k4 h1 h2 h3 h4 h5).2]
            exact go_i2l (eD DX8_piece 38 rfl) (by decide) (go_lret (eD DX8_piece 39 rfl) rfl)
        · refine go_if_neF (tgt := 48) (eD DX8_piece 21 rfl) rfl (eI_pI _) (not_not_intro (pI0 h4)) ?_
          refine go_aload_n (eD DX8_piece 22 rfl) rfl rfl (go_iconst (eD DX8_piece 23 rfl) (?_))
          refine go_callV (ci := 8) [(0, 2)] (eD DX8_piece 24 rfl) ⟨eMem 5 233 rfl rfl, sX8_refused⟩ ⟨Nat.le_of_ble_eq_true rfl, Nat.le_of_ble_eq_true rfl⟩ (by decide) ⟨rfl, by decide, _, rfl, rfl⟩ rfl rfl (Nat.le_of_ble_eq_true rfl) (Cal.as (zX8_refused (eU w 33 0 0) 2  ) (r2 := some (0, (-1))) (w2 := (eU (eU (eU w 33 0 0) 33 1 2) 33 2 (-1))) (by (try simp only [rX8_refused, if_neg h1, if_neg h2, if_pos h3, if_neg h4]) <;> (try rfl)) (by (try simp only [wX8_refused, if_neg h1, if_neg h2, if_pos h3, if_neg h4]) <;> (try rfl))) (?_)
          rw [(k5 h1 h2 h3 h4).1, (k5 h1 h2 h3 h4).2]
          exact go_i2l (eD DX8_piece 25 rfl) (by decide) (go_lret (eD DX8_piece 26 rfl) rfl)
      · refine go_if_neF (tgt := 33) (eD DX8_piece 12 rfl) rfl (eI_pI _) (not_not_intro (pI0 h3)) ?_
        refine go_aload_n (eD DX8_piece 13 rfl) rfl rfl (go_iconst (eD DX8_piece 14 rfl) (?_))
        refine go_callV (ci := 8) [(0, 1)] (eD DX8_piece 15 rfl) ⟨eMem 5 233 rfl rfl, sX8_refused⟩ ⟨Nat.le_of_ble_eq_true rfl, Nat.le_of_ble_eq_true rfl⟩ (by decide) ⟨rfl, by decide, _, rfl, rfl⟩ rfl rfl (Nat.le_of_ble_eq_true rfl) (Cal.as (zX8_refused (eU w 33 0 0) 1  ) (r2 := some (0, (-1))) (w2 := (eU (eU (eU w 33 0 0) 33 1 1) 33 2 (-1))) (by (try simp only [rX8_refused, if_neg h1, if_neg h2, if_neg h3]) <;> (try rfl)) (by (try simp only [wX8_refused, if_neg h1, if_neg h2, if_neg h3]) <;> (try rfl))) (?_)
        rw [(k6 h1 h2 h3).1, (k6 h1 h2 h3).2]
        exact go_i2l (eD DX8_piece 16 rfl) (by decide) (go_lret (eD DX8_piece 17 rfl) rfl)
set_option maxHeartbeats 4000000 in
set_option maxRecDepth 20000 in
theorem tX8_piece_75 {r : Option eV} {w9 : eW} (w : eW) (b i what sm j : Int) (hb : 1 ≤ b ∧ b ≤ 9999) (hc : (1 ≤ w 33 42 ∧ w 33 42 ≤ 30) ∧ 1 ≤ w 33 43 ∧ w 33 43 ≤ 30) (hw : eI what) (hj : 0 ≤ j ∧ j ≤ 30) (hs : 0 ≤ sm ∧ sm < 4611686018427387904) (k1 : (j + 1) < (w 33 43) → Go mX8_piece 89 [(0, eR 33), (2, (0, b)), (3, (0, i)), (4, (0, what)), (5, (1, sm)), (7, (0, j)), (8, (0, 0))] [] w r w9) (k2 : ¬ ((j + 1) < (w 33 43)) → what = 0 → r = some (1, sm / (gI sm (b * b))) ∧ w9 = (eU (eU w 33 1 0) 33 2 (-1))) (k3 : ¬ ((j + 1) < (w 33 43)) → ¬ (what = 0) → r = some (1, (b * b) / (gI sm (b * b))) ∧ w9 = (eU (eU w 33 1 0) 33 2 (-1))) : Go mX8_piece 75 [(0, eR 33), (2, (0, b)), (3, (0, i)), (4, (0, what)), (5, (1, sm)), (7, (0, j))] [] w r w9 := by
  have hbb : 1 * 1 ≤ b * b := Int.mul_le_mul (by omega) (by omega) (by omega) (by omega)
  have hbc : b * b ≤ 9999 * 9999 := Int.mul_le_mul (by omega) (by omega) (by omega) (by omega)
  have hg := gI_pos (a := sm) (b := b * b) (by omega)
  have hl := gI_le (a := sm) (b := b * b) (by omega)
  refine go_iload (eD DX8_piece 44 rfl) rfl (go_iconst (eD DX8_piece 45 rfl) (go_iadd (eD DX8_piece 46 rfl) (go_aload_n (eD DX8_piece 47 rfl) rfl rfl (go_getI (kz := 43) (eD DX8_piece 48 rfl) fX8_283 (by decide) rfl rfl rfl (?_)))))
  by_cases h1 : (j + 1) < (w 33 43)
  · refine go_icmp_geF (tgt := 171) (eD DX8_piece 49 rfl) rfl (by omega) (show eI (w 33 43) from by omega) (Int.not_le.mpr h1) ?_
    exact go_iconst (eD DX8_piece 50 rfl) (go_istore (eD DX8_piece 51 rfl) (by decide) (Go.pick [1, 2, 3, 4, 5, 6, 0] rfl (k1 h1)))
  · refine go_icmp_geT (tgt := 171) (eD DX8_piece 49 rfl) rfl (by omega) (show eI (w 33 43) from by omega) (Int.not_lt.mp h1) ?_
    refine go_lload (eD DX8_piece 100 rfl) rfl (go_iload_n (eD DX8_piece 101 rfl) rfl rfl (go_i2l (eD DX8_piece 102 rfl) (by omega) (go_iload_n (eD DX8_piece 103 rfl) rfl rfl (go_i2l (eD DX8_piece 104 rfl) (by omega) (go_lmul (eD DX8_piece 105 rfl) (go_callS [(1, sm), (1, b * b)] (eD DX8_piece 106 rfl) ⟨eMem 6 186 rfl rfl, sX8_common⟩ ⟨Nat.le_of_ble_eq_true rfl, Nat.le_of_ble_eq_true rfl⟩ rfl rfl (Nat.le_of_ble_eq_true rfl) (y_X8_common w sm (b * b) (by omega) (by omega)) (go_lstore (eD DX8_piece 107 rfl) (by decide) (go_aload_n (eD DX8_piece 108 rfl) rfl rfl (go_iload (eD DX8_piece 109 rfl) rfl (?_))))))))))
    by_cases h2 : what = 0
    · refine go_if_neF (tgt := 194) (eD DX8_piece 110 rfl) rfl (by omega) (not_not_intro h2) ?_
      refine go_lload (eD DX8_piece 111 rfl) rfl (go_goto (tgt := 199) (eD DX8_piece 112 rfl) rfl (go_lload (eD DX8_piece 118 rfl) rfl (go_ldiv (eD DX8_piece 119 rfl) (by omega) (by omega) (by omega) (by omega) (?_))))
      refine go_callV (ci := 8) [(1, sm / (gI sm (b * b)))] (eD DX8_piece 120 rfl) ⟨eMem 7 12 rfl rfl, sX8_says⟩ ⟨Nat.le_of_ble_eq_true rfl, Nat.le_of_ble_eq_true rfl⟩ (by decide) ⟨rfl, by decide, _, rfl, rfl⟩ rfl rfl (Nat.le_of_ble_eq_true rfl) (Cal.as (zX8_says w (sm / (gI sm (b * b)))  ) (r2 := some (1, sm / (gI sm (b * b)))) (w2 := (eU (eU w 33 1 0) 33 2 (-1))) (by (try simp only [rX8_says, if_neg h1, if_pos h2]) <;> (try rfl)) (by (try simp only [wX8_says, if_neg h1, if_pos h2]) <;> (try rfl))) (?_)
      rw [(k2 h1 h2).1, (k2 h1 h2).2]
      exact go_lret (eD DX8_piece 121 rfl) rfl
    · refine go_if_neT (tgt := 194) (eD DX8_piece 110 rfl) rfl (by omega) h2 ?_
      refine go_iload_n (eD DX8_piece 113 rfl) rfl rfl (go_i2l (eD DX8_piece 114 rfl) (by omega) (go_iload_n (eD DX8_piece 115 rfl) rfl rfl (go_i2l (eD DX8_piece 116 rfl) (by omega) (go_lmul (eD DX8_piece 117 rfl) (go_lload (eD DX8_piece 118 rfl) rfl (go_ldiv (eD DX8_piece 119 rfl) (by omega) (by omega) (by omega) (by omega) (?_)))))))
      refine go_callV (ci := 8) [(1, (b * b) / (gI sm (b * b)))] (eD DX8_piece 120 rfl) ⟨eMem 7 12 rfl rfl, sX8_says⟩ ⟨Nat.le_of_ble_eq_true rfl, Nat.le_of_ble_eq_true rfl⟩ (by decide) ⟨rfl, by decide, _, rfl, rfl⟩ rfl rfl (Nat.le_of_ble_eq_true rfl) (Cal.as (zX8_says w ((b * b) / (gI sm (b * b)))  ) (r2 := some (1, (b * b) / (gI sm (b * b)))) (w2 := (eU (eU w 33 1 0) 33 2 (-1))) (by (try simp only [rX8_says, if_neg h1, if_neg h2]) <;> (try rfl)) (by (try simp only [wX8_says, if_neg h1, if_neg h2]) <;> (try rfl))) (?_)
      rw [(k3 h1 h2).1, (k3 h1 h2).2]
      exact go_lret (eD DX8_piece 121 rfl) rfl
set_option maxHeartbeats 4000000 in
set_option maxRecDepth 20000 in
theorem tX8_piece_89 {r : Option eV} {w9 : eW} (w : eW) (b i what sm j k : Int) (hc : (1 ≤ w 33 42 ∧ w 33 42 ≤ 30) ∧ 1 ≤ w 33 43 ∧ w 33 43 ≤ 30) (hj : 0 ≤ j ∧ j + 1 < 30) (hk : 0 ≤ k ∧ k ≤ 30) (hi : eI i) (hl : k + 1 < w 33 42 → eI (w 51 (30 * j + k)) ∧ (-300000 ≤ w 45 k ∧ w 45 k ≤ 300000) ∧ (-300000 ≤ w 45 (k + 1) ∧ w 45 (k + 1) ≤ 300000) ∧ (-300000 ≤ w 48 j ∧ w 48 j ≤ 300000) ∧ (-300000 ≤ w 48 (j + 1) ∧ w 48 (j + 1) ≤ 300000)) (k1 : (k + 1) < (w 33 42) → (w 51 ((30 * j) + k)) = i → Go mX8_piece 89 [(0, eR 33), (2, (0, b)), (3, (0, i)), (4, (0, what)), (5, (1, sm + (((w 45 (k + 1)) - (w 45 k)) * ((w 48 (j + 1)) - (w 48 j))))), (7, (0, j)), (8, (0, k + 1))] [] w r w9) (k2 : (k + 1) < (w 33 42) → ¬ ((w 51 ((30 * j) + k)) = i) → Go mX8_piece 89 [(0, eR 33), (2, (0, b)), (3, (0, i)), (4, (0, what)), (5, (1, sm)), (7, (0, j)), (8, (0, k + 1))] [] w r w9) (k3 : ¬ ((k + 1) < (w 33 42)) → Go mX8_piece 75 [(0, eR 33), (2, (0, b)), (3, (0, i)), (4, (0, what)), (5, (1, sm)), (7, (0, j + 1))] [] w r w9) : Go mX8_piece 89 [(0, eR 33), (2, (0, b)), (3, (0, i)), (4, (0, what)), (5, (1, sm)), (7, (0, j)), (8, (0, k))] [] w r w9 := by
  refine go_iload (eD DX8_piece 52 rfl) rfl (go_iconst (eD DX8_piece 53 rfl) (go_iadd (eD DX8_piece 54 rfl) (go_aload_n (eD DX8_piece 55 rfl) rfl rfl (go_getI (kz := 42) (eD DX8_piece 56 rfl) fX8_280 (by decide) rfl rfl rfl (?_)))))
  by_cases h1 : (k + 1) < (w 33 42)
  · refine go_icmp_geF (tgt := 165) (eD DX8_piece 57 rfl) rfl (by omega) (show eI (w 33 42) from by omega) (Int.not_le.mpr h1) ?_
    refine go_aload_n (eD DX8_piece 58 rfl) rfl rfl (go_getR (t := 51) (eD DX8_piece 59 rfl) fX8_65 (by decide) rfl ⟨rfl, rfl⟩ (go_bipush (eD DX8_piece 60 rfl) (by decide) (go_iload (eD DX8_piece 61 rfl) rfl (go_imul (eD DX8_piece 62 rfl) (go_iload (eD DX8_piece 63 rfl) rfl (go_iadd (eD DX8_piece 64 rfl) (go_iald (n := 900) (eD DX8_piece 65 rfl) (by decide) rfl (by omega) (go_iload_n (eD DX8_piece 66 rfl) rfl rfl (?_)))))))))
    by_cases h2 : (w 51 ((30 * j) + k)) = i
    · refine go_icmp_neF (tgt := 159) (eD DX8_piece 67 rfl) rfl (show eI (w 51 ((30 * j) + k)) from by omega) (by omega) (not_not_intro h2) ?_
      exact go_lload (eD DX8_piece 68 rfl) rfl (go_aload_n (eD DX8_piece 69 rfl) rfl rfl (go_getR (t := 45) (eD DX8_piece 70 rfl) fX8_47 (by decide) rfl ⟨rfl, rfl⟩ (go_iload (eD DX8_piece 71 rfl) rfl (go_iconst (eD DX8_piece 72 rfl) (go_iadd (eD DX8_piece 73 rfl) (go_iald (n := 30) (eD DX8_piece 74 rfl) (by decide) rfl (by omega) (go_aload_n (eD DX8_piece 75 rfl) rfl rfl (go_getR (t := 45) (eD DX8_piece 76 rfl) fX8_47 (by decide) rfl ⟨rfl, rfl⟩ (go_iload (eD DX8_piece 77 rfl) rfl (go_iald (n := 30) (eD DX8_piece 78 rfl) (by decide) rfl (by omega) (go_isub (eD DX8_piece 79 rfl) (go_i2l (eD DX8_piece 80 rfl) (show eI ((w 45 (k + 1)) - (w 45 k)) from by omega) (go_aload_n (eD DX8_piece 81 rfl) rfl rfl (go_getR (t := 48) (eD DX8_piece 82 rfl) fX8_56 (by decide) rfl ⟨rfl, rfl⟩ (go_iload (eD DX8_piece 83 rfl) rfl (go_iconst (eD DX8_piece 84 rfl) (go_iadd (eD DX8_piece 85 rfl) (go_iald (n := 30) (eD DX8_piece 86 rfl) (by decide) rfl (by omega) (go_aload_n (eD DX8_piece 87 rfl) rfl rfl (go_getR (t := 48) (eD DX8_piece 88 rfl) fX8_56 (by decide) rfl ⟨rfl, rfl⟩ (go_iload (eD DX8_piece 89 rfl) rfl (go_iald (n := 30) (eD DX8_piece 90 rfl) (by decide) rfl (by omega) (go_isub (eD DX8_piece 91 rfl) (go_i2l (eD DX8_piece 92 rfl) (show eI ((w 48 (j + 1)) - (w 48 j)) from by omega) (go_lmul (eD DX8_piece 93 rfl) (go_ladd (eD DX8_piece 94 rfl) (go_lstore (eD DX8_piece 95 rfl) (by decide) (go_iinc (eD DX8_piece 96 rfl) rfl (by decide) (go_goto (tgt := 89) (eD DX8_piece 97 rfl) rfl (Go.pick [2, 3, 4, 5, 1, 6, 0] rfl (k1 h1 h2)))))))))))))))))))))))))))))))
    · refine go_icmp_neT (tgt := 159) (eD DX8_piece 67 rfl) rfl (show eI (w 51 ((30 * j) + k)) from by omega) (by omega) h2 ?_
      exact go_iinc (eD DX8_piece 96 rfl) rfl (by decide) (go_goto (tgt := 89) (eD DX8_piece 97 rfl) rfl (Go.pick [1, 2, 3, 4, 5, 6, 0] rfl (k2 h1 h2)))
  · refine go_icmp_geT (tgt := 165) (eD DX8_piece 57 rfl) rfl (by omega) (show eI (w 33 42) from by omega) (Int.not_lt.mp h1) ?_
    exact go_iinc (eD DX8_piece 98 rfl) rfl (by decide) (go_goto (tgt := 75) (eD DX8_piece 99 rfl) rfl (Go.pick [1, 2, 3, 4, 5, 0] rfl (k3 h1)))
set_option maxHeartbeats 4000000 in
set_option maxRecDepth 20000 in
theorem tX8_pieces_0 {r : Option eV} {w9 : eW} (w : eW) (a b : Int) {w1 : eW} (hM : MB w) (ha : eI a) (hb : eI b) (g1 : 0 ≤ a ∧ a ≤ 9999 ∧ 1 ≤ b ∧ b ≤ 9999 → Cal mX8_lays [eR 33, (0, a), (0, b)] (eU w 33 0 0) none w1) (k1 : (w 33 28) = 0 → r = some (0, (-1)) ∧ w9 = (eU (eU (eU w 33 0 0) 33 1 1) 33 2 (-1))) (k2 : ¬ ((w 33 28) = 0) → 0 ≤ a ∧ a ≤ 9999 ∧ 1 ≤ b ∧ b ≤ 9999 → r = some (0, w1 33 44) ∧ w9 = (eU (eU w1 33 1 0) 33 2 (-1))) (k3 : ¬ ((w 33 28) = 0) → ¬ (0 ≤ a ∧ a ≤ 9999 ∧ 1 ≤ b ∧ b ≤ 9999) → r = some (0, (-1)) ∧ w9 = (eU (eU (eU w 33 0 0) 33 1 2) 33 2 (-1))) : Go mX8_pieces 0 [(0, eR 33), (1, (0, a)), (2, (0, b))] [] w r w9 := by
  obtain ⟨⟨c1, c2, c3, c4, c5, c6, c7, c8, c9, c10⟩, c11, c12, c13⟩ := id hM
  refine go_aload_n (eD DX8_pieces 0 rfl) rfl rfl (go_iconst (eD DX8_pieces 1 rfl) (go_putI (kz := 0) (eD DX8_pieces 2 rfl) fX8_95 (by decide) rfl rfl (fun q h => by cases h; exact ⟨rfl, rfl⟩) rfl (go_aload_n (eD DX8_pieces 3 rfl) rfl rfl (go_getI (kz := 28) (eD DX8_pieces 4 rfl) fX8_228 (by decide) rfl rfl rfl (?_)))))
  by_cases h1 : (w 33 28) = 0
  · refine go_if_neF (tgt := 18) (eD DX8_pieces 5 rfl) rfl (show eI (w 33 28) from by omega) (not_not_intro h1) ?_
    refine go_aload_n (eD DX8_pieces 6 rfl) rfl rfl (go_iconst (eD DX8_pieces 7 rfl) (?_))
    refine go_callV (ci := 8) [(0, 1)] (eD DX8_pieces 8 rfl) ⟨eMem 5 233 rfl rfl, sX8_refused⟩ ⟨Nat.le_of_ble_eq_true rfl, Nat.le_of_ble_eq_true rfl⟩ (by decide) ⟨rfl, by decide, _, rfl, rfl⟩ rfl rfl (Nat.le_of_ble_eq_true rfl) (Cal.as (zX8_refused (eU w 33 0 0) 1  ) (r2 := some (0, (-1))) (w2 := (eU (eU (eU w 33 0 0) 33 1 1) 33 2 (-1))) (by (try simp only [rX8_refused, if_pos h1]) <;> (try rfl)) (by (try simp only [wX8_refused, if_pos h1]) <;> (try rfl))) (?_)
    rw [(k1 h1).1, (k1 h1).2]
    exact go_iret (eD DX8_pieces 9 rfl) rfl
  · refine go_if_neT (tgt := 18) (eD DX8_pieces 5 rfl) rfl (show eI (w 33 28) from by omega) h1 ?_
    refine go_iload_n (eD DX8_pieces 10 rfl) rfl rfl (go_iload_n (eD DX8_pieces 11 rfl) rfl rfl (go_callS [(0, a), (0, b)] (eD DX8_pieces 12 rfl) ⟨eMem 7 1 rfl rfl, sX8_isTime⟩ ⟨Nat.le_of_ble_eq_true rfl, Nat.le_of_ble_eq_true rfl⟩ rfl rfl (Nat.le_of_ble_eq_true rfl) (y_b_X8_isTime (eU w 33 0 0) a b (by omega) (by omega) ) (?_)))
    by_cases h2 : 0 ≤ a ∧ a ≤ 9999 ∧ 1 ≤ b ∧ b ≤ 9999
    · refine go_if_neT (tgt := 32) (eD DX8_pieces 13 rfl) rfl (eI_pI _) (pI1 h2) ?_
      refine go_aload_n (eD DX8_pieces 18 rfl) rfl rfl (go_iload_n (eD DX8_pieces 19 rfl) rfl rfl (go_iload_n (eD DX8_pieces 20 rfl) rfl rfl (go_callV (ci := 8) [(0, a), (0, b)] (eD DX8_pieces 21 rfl) ⟨eMem 6 109 rfl rfl, sX8_lays⟩ ⟨Nat.le_of_ble_eq_true rfl, Nat.le_of_ble_eq_true rfl⟩ (by decide) ⟨rfl, by decide, _, rfl, rfl⟩ rfl rfl (Nat.le_of_ble_eq_true rfl) (g1 (by assumption)) (go_aload_n (eD DX8_pieces 22 rfl) rfl rfl (go_aload_n (eD DX8_pieces 23 rfl) rfl rfl (go_getI (kz := 44) (eD DX8_pieces 24 rfl) fX8_294 (by decide) rfl rfl rfl (?_)))))))
      refine go_callV (ci := 8) [(0, w1 33 44)] (eD DX8_pieces 25 rfl) ⟨eMem 6 59 rfl rfl, sX8_good⟩ ⟨Nat.le_of_ble_eq_true rfl, Nat.le_of_ble_eq_true rfl⟩ (by decide) ⟨rfl, by decide, _, rfl, rfl⟩ rfl rfl (Nat.le_of_ble_eq_true rfl) (Cal.as (zX8_good w1 (w1 33 44)  ) (r2 := some (0, w1 33 44)) (w2 := (eU (eU w1 33 1 0) 33 2 (-1))) (by (try simp only [rX8_good, if_neg h1, if_pos h2]) <;> (try rfl)) (by (try simp only [wX8_good, if_neg h1, if_pos h2]) <;> (try rfl))) (?_)
      rw [(k2 h1 h2).1, (k2 h1 h2).2]
      exact go_iret (eD DX8_pieces 26 rfl) rfl
    · refine go_if_neF (tgt := 32) (eD DX8_pieces 13 rfl) rfl (eI_pI _) (not_not_intro (pI0 h2)) ?_
      refine go_aload_n (eD DX8_pieces 14 rfl) rfl rfl (go_iconst (eD DX8_pieces 15 rfl) (?_))
      refine go_callV (ci := 8) [(0, 2)] (eD DX8_pieces 16 rfl) ⟨eMem 5 233 rfl rfl, sX8_refused⟩ ⟨Nat.le_of_ble_eq_true rfl, Nat.le_of_ble_eq_true rfl⟩ (by decide) ⟨rfl, by decide, _, rfl, rfl⟩ rfl rfl (Nat.le_of_ble_eq_true rfl) (Cal.as (zX8_refused (eU w 33 0 0) 2  ) (r2 := some (0, (-1))) (w2 := (eU (eU (eU w 33 0 0) 33 1 2) 33 2 (-1))) (by (try simp only [rX8_refused, if_neg h1, if_neg h2]) <;> (try rfl)) (by (try simp only [wX8_refused, if_neg h1, if_neg h2]) <;> (try rfl))) (?_)
      rw [(k3 h1 h2).1, (k3 h1 h2).2]
      exact go_iret (eD DX8_pieces 17 rfl) rfl
