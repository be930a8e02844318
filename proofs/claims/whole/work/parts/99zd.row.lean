/-! rows of row -/
set_option maxHeartbeats 4000000 in
set_option maxRecDepth 20000 in
theorem tX8_row_0 {r : Option eV} {w9 : eW} (w : eW) (y : Int) {b : Int} (zb : 0 ≤ b ∧ b ≤ 1) (g : Cal mX8_isFrame [eR 33, (0, 0), (0, y)] (eU w 33 0 0) (some (0, b)) (eU w 33 0 0)) (k1 : b = 0 → r = some (0, 0) ∧ w9 = (eU (eU w 33 0 0) 33 0 1)) (k2 : ¬ (b = 0) → Go mX8_row 25 [(0, eR 33), (1, (0, y)), (2, (0, 0)), (3, (0, 0))] [] (eU w 33 0 0) r w9) : Go mX8_row 0 [(0, eR 33), (1, (0, y))] [] w r w9 := by
  refine go_aload_n (eD DX8_row 0 rfl) rfl rfl (go_iconst (eD DX8_row 1 rfl) (go_putI (kz := 0) (eD DX8_row 2 rfl) fX8_95 (by decide) rfl rfl (fun q h => by cases h; exact ⟨rfl, rfl⟩) rfl (go_aload_n (eD DX8_row 3 rfl) rfl rfl (go_iconst (eD DX8_row 4 rfl) (go_iload_n (eD DX8_row 5 rfl) rfl rfl (go_callV (ci := 8) [(0, 0), (0, y)] (eD DX8_row 6 rfl) ⟨eMem 6 137 rfl rfl, sX8_isFrame⟩ ⟨Nat.le_of_ble_eq_true rfl, Nat.le_of_ble_eq_true rfl⟩ (by decide) ⟨rfl, by decide, _, rfl, rfl⟩ rfl rfl (Nat.le_of_ble_eq_true rfl) g (?_)))))))
  by_cases h1 : b = 0
  · refine go_if_neF (tgt := 21) (eD DX8_row 7 rfl) rfl (by omega) (not_not_intro h1) ?_
    rw [(k1 h1).1, (k1 h1).2]
    exact go_aload_n (eD DX8_row 8 rfl) rfl rfl (go_iconst (eD DX8_row 9 rfl) (go_putI (kz := 0) (eD DX8_row 10 rfl) fX8_95 (by decide) rfl rfl (fun q h => by cases h; exact ⟨rfl, rfl⟩) rfl (go_iconst (eD DX8_row 11 rfl) (go_iret (eD DX8_row 12 rfl) rfl))))
  · refine go_if_neT (tgt := 21) (eD DX8_row 7 rfl) rfl (by omega) h1 ?_
    exact go_iconst (eD DX8_row 13 rfl) (go_istore_n (eD DX8_row 14 rfl) rfl (by decide) (go_iconst (eD DX8_row 15 rfl) (go_istore_n (eD DX8_row 16 rfl) rfl (by decide) (Go.pick [2, 3, 1, 0] rfl (k2 h1)))))
set_option maxHeartbeats 4000000 in
set_option maxRecDepth 20000 in
theorem tX8_row_25 {r : Option eV} {w9 : eW} (w : eW) (y a x : Int) (hy : 0 ≤ y ∧ y < 10) (hx : 0 ≤ x ∧ x ≤ w 33 24 ∧ w 33 24 ≤ 14) (ha : 0 ≤ a ∧ a < 16384) (hv : x < w 33 24 → 0 ≤ w 38 (14 * y + x) ∧ w 38 (14 * y + x) ≤ 1) (k1 : x < (w 33 24) → Go mX8_row 25 [(0, eR 33), (1, (0, y)), (2, (0, eOr a ((w 38 ((14 * y) + x)) * 2 ^ (x).toNat))), (3, (0, x + 1))] [] w r w9) (k2 : ¬ (x < (w 33 24)) → r = some (0, a) ∧ w9 = w) : Go mX8_row 25 [(0, eR 33), (1, (0, y)), (2, (0, a)), (3, (0, x))] [] w r w9 := by
  refine go_iload_n (eD DX8_row 17 rfl) rfl rfl (go_aload_n (eD DX8_row 18 rfl) rfl rfl (go_getI (kz := 24) (eD DX8_row 19 rfl) fX8_216 (by decide) rfl rfl rfl (?_)))
  by_cases h1 : x < (w 33 24)
  · refine go_icmp_geF (tgt := 55) (eD DX8_row 20 rfl) rfl (by omega) (show eI (w 33 24) from by omega) (Int.not_le.mpr h1) ?_
    exact go_iload_n (eD DX8_row 21 rfl) rfl rfl (go_aload_n (eD DX8_row 22 rfl) rfl rfl (go_getR (t := 38) (eD DX8_row 23 rfl) fX8_26 (by decide) rfl ⟨rfl, rfl⟩ (go_bipush (eD DX8_row 24 rfl) (by decide) (go_iload_n (eD DX8_row 25 rfl) rfl rfl (go_imul (eD DX8_row 26 rfl) (go_iload_n (eD DX8_row 27 rfl) rfl rfl (go_iadd (eD DX8_row 28 rfl) (go_iald (n := 144) (eD DX8_row 29 rfl) (by decide) rfl (by omega) (go_iload_n (eD DX8_row 30 rfl) rfl rfl (go_ishl (eD DX8_row 31 rfl) (by omega) (go_ior (eD DX8_row 32 rfl) (go_istore_n (eD DX8_row 33 rfl) rfl (by decide) (go_iinc (eD DX8_row 34 rfl) rfl (by decide) (go_goto (tgt := 25) (eD DX8_row 35 rfl) rfl (Go.pick [2, 3, 1, 0] rfl (k1 h1))))))))))))))))
  · refine go_icmp_geT (tgt := 55) (eD DX8_row 20 rfl) rfl (by omega) (show eI (w 33 24) from by omega) (Int.not_lt.mp h1) ?_
    rw [(k2 h1).1, (k2 h1).2]
    exact go_iload_n (eD DX8_row 36 rfl) rfl rfl (go_iret (eD DX8_row 37 rfl) rfl)
set_option maxHeartbeats 4000000 in
set_option maxRecDepth 20000 in
theorem tX7_row_0 {r : Option eV} {w9 : eW} (w : eW) (y : Int) {v : Int} (hv : eI v) (g : Cal mX0_hasCell [eR 2, (0, 0), (0, y)] w (some (0, 1)) w) (g2 : Cal mX0_lineAt [eR 2, (0, y)] w (some (0, v)) w) (k1 : r = some (0, v) ∧ w9 = w) : Go mX7_row 0 [(0, eR 0), (1, (0, y))] [] w r w9 := by
  have a1 : ¬ ((1 : Int) = 0) := by omega
  refine go_aload_n (eD DX7_row 0 rfl) rfl rfl (go_getR (t := 2) (eD DX7_row 1 rfl) fX7_29 (by decide) rfl ⟨rfl, rfl⟩ (go_iconst (eD DX7_row 2 rfl) (go_iload_n (eD DX7_row 3 rfl) rfl rfl (go_callV (ci := 0) [(0, 0), (0, y)] (eD DX7_row 4 rfl) ⟨eMem 3 90 rfl rfl, sX0_hasCell⟩ ⟨Nat.le_of_ble_eq_true rfl, Nat.le_of_ble_eq_true rfl⟩ (by decide) ⟨rfl, by decide, _, rfl, rfl⟩ rfl rfl (Nat.le_of_ble_eq_true rfl) g (go_if_neT (tgt := 23) (eD DX7_row 5 rfl) rfl (show eI 1 from by decide) a1 (?_))))))
  rw [(k1).1, (k1).2]
  exact go_aload_n (eD DX7_row 11 rfl) rfl rfl (go_getR (t := 2) (eD DX7_row 12 rfl) fX7_29 (by decide) rfl ⟨rfl, rfl⟩ (go_iload_n (eD DX7_row 13 rfl) rfl rfl (go_callV (ci := 0) [(0, y)] (eD DX7_row 14 rfl) ⟨eMem 5 28 rfl rfl, sX0_lineAt⟩ ⟨Nat.le_of_ble_eq_true rfl, Nat.le_of_ble_eq_true rfl⟩ (by decide) ⟨rfl, by decide, _, rfl, rfl⟩ rfl rfl (Nat.le_of_ble_eq_true rfl) g2 (go_iret (eD DX7_row 15 rfl) rfl))))
theorem IV_v {w : eW} (v : Int) (h : IV w) : IV (eU w 33 0 v) := by
  obtain ⟨i1, i2, i3, i4, i5, i6, i7, i8⟩ := h
  have f : Fr [33] w (eU w 33 0 v) := Fr.put Fr.rf (by decide)
  have e : ∀ i, i ≠ 0 → eU w 33 0 v 33 i = w 33 i := fun i hi => by rw [eU_get, if_neg hi]
  have e0 : eU w 33 0 v 0 = w 0 := f 0 (by decide)
  have e2 : eU w 33 0 v 2 = w 2 := f 2 (by decide)
  have e5 : eU w 33 0 v 5 = w 5 := f 5 (by decide)
  have e6 : eU w 33 0 v 6 = w 6 := f 6 (by decide)
  refine ⟨HB_fr f i1 (by decide), ?_, i3.fr f (by decide) (fun i j1 j2 => e i (by omega)), ?_, ?_, ?_, ?_, CA_fr f (by decide) i8⟩
  · unfold MB
    rw [e 24 (by decide), e 25 (by decide), e 26 (by decide), e 27 (by decide), e 28 (by decide), f 38 (by decide), f 40 (by decide)]
    exact i2
  · unfold HO
    rw [e 28 (by decide), e2, e6]
    refine i4.imp id (fun ⟨b1, b2, b3, b4, b5, x, y, b6⟩ => ⟨b1, b2, b3, HH_fr f b4 (by decide), ?_, x, y, by rw [insC_fr f (by decide)]; exact b6⟩)
    intro k k1 k2
    rw [e2] at k2 ⊢
    rw [e5]
    exact b5 k k1 k2
  · unfold TP MO
    rw [e 4 (by decide), e0, f 1 (by decide), f 34 (by decide), f 37 (by decide), f 40 (by decide)]
    exact i5
  · unfold TR
    rw [e 7 (by decide), e 1 (by decide), e 2 (by decide), e0]
    exact i6
  · unfold PS
    rw [e6, e2, f 7 (by decide), f 39 (by decide)]
    exact i7
theorem z_row1 {w : eW} (y : Int) (hI : IV w) (hy : 0 ≤ y ∧ y < w 2 1) (h1 : 1 ≤ w 2 0) : Cal mX7_row [eR 0, (0, y)] w (some (0, w 3 y)) w := by
  have hB := hI.1
  obtain ⟨⟨b1, b2, b3, b4, b5, b6⟩, b7, b8, b9⟩ := id hB
  have g := y_b_X0_hasCell w 0 y (by decide) (by omega) hB
  rw [if_pos (by omega)] at g
  have g2 := zX0_lineAt w y (by omega) hB
  have e : rX0_lineAt w y = w 3 y := by
    unfold rX0_lineAt
    rw [if_neg (by omega), if_pos (by omega), if_pos (by omega)]
  rw [e] at g2
  have hb := b7 y hy.1 (by omega)
  exact Cal.of (by decide +kernel) (Nat.le_of_ble_eq_true rfl) (tX7_row_0 w y (v := w 3 y) (by omega) g g2 ⟨rfl, rfl⟩)
/-- the model's row where there is none -/
theorem z_row0 {w : eW} (y : Int) (hyI : eI y) (hI : IV w) (hy : ¬ (1 ≤ w 2 0 ∧ 0 ≤ y ∧ y < w 2 1)) : Cal mX8_row [eR 33, (0, y)] w (some (0, 0)) (eU (eU w 33 0 0) 33 0 1) := by
  obtain ⟨hB, hM, hS, hO, hT, hR, hP, hC⟩ := id (IV_0 hI)
  have e2 : eU w 33 0 0 2 = w 2 := eU_ne (by decide)
  have g := y_b_X8_isFrame (eU w 33 0 0) 0 y (by decide) hyI hM
  rw [hS.wide, hS.high, e2, if_neg (by omega)] at g
  refine Cal.of (by decide +kernel) (Nat.le_of_ble_eq_true rfl) (tX8_row_0 w y (b := 0) (by decide) g (fun _ => ⟨rfl, rfl⟩) (fun q => absurd rfl q))
theorem z_rowM {w : eW} (y : Int) (hI : IV w) (hy : 0 ≤ y ∧ y < w 2 1) (h1 : 1 ≤ w 2 0) : Cal mX8_row [eR 33, (0, y)] w (some (0, w 3 y)) (eU w 33 0 0) := by
  obtain ⟨hB, hM, hS, hO, hT, hR, hP, hC⟩ := id (IV_0 hI)
  have e2 : eU w 33 0 0 2 = w 2 := eU_ne (by decide)
  have e3 : eU w 33 0 0 3 = w 3 := eU_ne (by decide)
  have h28 : eU w 33 0 0 33 28 = 1 ∧ HH (eU w 33 0 0) := by
    rcases hO with ⟨-, o2, -⟩ | ⟨o1, -, -, o2, -⟩
    · rw [e2] at o2; omega
    · exact ⟨o1, o2⟩
  have hH := h28.2
  have hB := hH.1
  obtain ⟨⟨b1, b2, b3, b4, b5, b6⟩, b7, b8, b9⟩ := id hB
  rw [e2] at b1 b2 b3 b4
  have g := y_b_X8_isFrame (eU w 33 0 0) 0 y (by decide) (by omega) hM
  rw [hS.wide, hS.high, h28.1, e2, if_pos (by omega)] at g
  have w24 := hS.wide
  rw [e2] at w24
  have hb := b7 y hy.1 (by omega)
  rw [e3] at hb
  have cell : ∀ x, 0 ≤ x → x < 14 → eU w 33 0 0 38 (14 * y + x) = bitv (w 3 y) x := fun x x1 x2 => by
    have := hS.cells x y x1 x2 hy.1 (by omega)
    rw [e3] at this
    exact this
  have key := loop_up (P := fun x => ∀ a, RB (fun i => if bitv (w 3 y) i = 1 then 120 else 0) 0 x a → Go mX8_row 25 [(0, eR 33), (1, (0, y)), (2, (0, a)), (3, (0, x))] [] (eU w 33 0 0) (some (0, w 3 y)) (eU w 33 0 0)) 0 (w 2 0) ?_ ?_ 0 (by decide) b1 0 (RB_0 _ _)
  · exact Cal.of (by decide +kernel) (Nat.le_of_ble_eq_true rfl) (tX8_row_0 w y (b := 1) (by decide) g (fun q => absurd q (by decide)) (fun _ => key))
  · rintro a ⟨ha, hv⟩
    have ea : a = w 3 y := by
      refine bitv_ext (k := 14) (by rw [show (2 : Int) ^ 14 = 16384 from rfl]; exact ha) (by rw [show (2 : Int) ^ 14 = 16384 from rfl]; exact hb) (fun x x1 x2 => ?_)
      rw [hv x x1 x2]
      have h01 := bitv_01 (w 3 y) x
      by_cases c : bitv (w 3 y) x = 1
      · have hin := hH.2.2 y x hy.1 (by omega) x1 x2 (by rw [e3]; exact c)
        rw [e2] at hin
        rw [if_pos ⟨hin.1, by show (if bitv (w 3 y) (0 + x) = 1 then (120 : Int) else 0) = 120; rw [Int.zero_add, if_pos c]⟩, c]
      · rw [if_neg (fun q => by
          have : (if bitv (w 3 y) (0 + x) = 1 then (120 : Int) else 0) = 120 := q.2
          rw [Int.zero_add, if_neg c] at this
          exact absurd this (by decide))]
        omega
    apply tX8_row_25 _ y a _ (by omega) (by rw [w24]; omega) ha (fun q => by rw [w24] at q; omega)
    · intro q; rw [w24] at q; omega
    · intro _; rw [ea]; exact ⟨rfl, rfl⟩
  · intro x x1 x2 ih a ha
    have h01 := bitv_01 (w 3 y) x
    apply tX8_row_25 _ y a x (by omega) (by rw [w24]; omega) ha.1 (fun _ => by rw [cell x x1 (by omega)]; omega)
    · intro _
      rw [cell x x1 (by omega)]
      by_cases c : bitv (w 3 y) x = 1
      · rw [c]
        exact ih _ (RB_1 ha (by omega) (by show (if bitv (w 3 y) (0 + x) = 1 then (120 : Int) else 0) = 120; rw [Int.zero_add, if_pos c]))
      · rw [show bitv (w 3 y) x = 0 by omega, Int.zero_mul]
        exact ih _ (RB_2 ha (by show ¬ (if bitv (w 3 y) (0 + x) = 1 then (120 : Int) else 0) = 120; rw [Int.zero_add, if_neg c]; decide))
    · intro q; rw [w24] at q; omega
