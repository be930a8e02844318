def rX6_besideX (w : eW) (x side : Int) : Int := if side = 1 then (x + 1) else (if side = 3 then (x - 1) else x)
set_option maxRecDepth 20000 in
theorem zX6_besideX (w : eW) (x side : Int) (hside : eI side) : Cal mX6_besideX [(0, x), (0, side)] w (some (0, rX6_besideX w x side)) w := by
  unfold rX6_besideX
  refine Cal.of (by decide +kernel) (Nat.le_of_ble_eq_true rfl) ?_
  show Go _ 0 [(0, (0, x)), (1, (0, side))] [] _ _ _
  refine go_iload_n (eD DX6_besideX 0 rfl) rfl rfl (go_iconst (eD DX6_besideX 1 rfl) (?_))
  by_cases h1 : side = 1
  · refine go_icmp_neF (tgt := 9) (eD DX6_besideX 2 rfl) rfl (by omega) (by decide) (not_not_intro h1) ?_
    simp only [if_pos h1]
    exact go_iload_n (eD DX6_besideX 3 rfl) rfl rfl (go_iconst (eD DX6_besideX 4 rfl) (go_iadd (eD DX6_besideX 5 rfl) (go_iret (eD DX6_besideX 6 rfl) rfl)))
  · refine go_icmp_neT (tgt := 9) (eD DX6_besideX 2 rfl) rfl (by omega) (by decide) h1 ?_
    refine go_iload_n (eD DX6_besideX 7 rfl) rfl rfl (go_iconst (eD DX6_besideX 8 rfl) (?_))
    by_cases h2 : side = 3
    · refine go_icmp_neF (tgt := 20) (eD DX6_besideX 9 rfl) rfl (by omega) (by decide) (not_not_intro h2) ?_
      simp only [if_neg h1, if_pos h2]
      exact go_iload_n (eD DX6_besideX 10 rfl) rfl rfl (go_iconst (eD DX6_besideX 11 rfl) (go_isub (eD DX6_besideX 12 rfl) (go_goto (tgt := 21) (eD DX6_besideX 13 rfl) rfl (go_iret (eD DX6_besideX 15 rfl) rfl))))
    · refine go_icmp_neT (tgt := 20) (eD DX6_besideX 9 rfl) rfl (by omega) (by decide) h2 ?_
      simp only [if_neg h1, if_neg h2]
      exact go_iload_n (eD DX6_besideX 14 rfl) rfl rfl (go_iret (eD DX6_besideX 15 rfl) rfl)
def rX6_besideY (w : eW) (y side : Int) : Int := if side = 2 then (y + 1) else (if side = 0 then (y - 1) else y)
set_option maxRecDepth 20000 in
theorem zX6_besideY (w : eW) (y side : Int) (hside : eI side) : Cal mX6_besideY [(0, y), (0, side)] w (some (0, rX6_besideY w y side)) w := by
  unfold rX6_besideY
  refine Cal.of (by decide +kernel) (Nat.le_of_ble_eq_true rfl) ?_
  show Go _ 0 [(0, (0, y)), (1, (0, side))] [] _ _ _
  refine go_iload_n (eD DX6_besideY 0 rfl) rfl rfl (go_iconst (eD DX6_besideY 1 rfl) (?_))
  by_cases h1 : side = 2
  · refine go_icmp_neF (tgt := 9) (eD DX6_besideY 2 rfl) rfl (by omega) (by decide) (not_not_intro h1) ?_
    simp only [if_pos h1]
    exact go_iload_n (eD DX6_besideY 3 rfl) rfl rfl (go_iconst (eD DX6_besideY 4 rfl) (go_iadd (eD DX6_besideY 5 rfl) (go_iret (eD DX6_besideY 6 rfl) rfl)))
  · refine go_icmp_neT (tgt := 9) (eD DX6_besideY 2 rfl) rfl (by omega) (by decide) h1 ?_
    refine go_iload_n (eD DX6_besideY 7 rfl) rfl rfl (?_)
    by_cases h2 : side = 0
    · refine go_if_neF (tgt := 19) (eD DX6_besideY 8 rfl) rfl (by omega) (not_not_intro h2) ?_
      simp only [if_neg h1, if_pos h2]
      exact go_iload_n (eD DX6_besideY 9 rfl) rfl rfl (go_iconst (eD DX6_besideY 10 rfl) (go_isub (eD DX6_besideY 11 rfl) (go_goto (tgt := 20) (eD DX6_besideY 12 rfl) rfl (go_iret (eD DX6_besideY 14 rfl) rfl))))
    · refine go_if_neT (tgt := 19) (eD DX6_besideY 8 rfl) rfl (by omega) h2 ?_
      simp only [if_neg h1, if_neg h2]
      exact go_iload_n (eD DX6_besideY 13 rfl) rfl rfl (go_iret (eD DX6_besideY 14 rfl) rfl)
def wX6_begin (w : eW) (side x y : Int) : eW := (eU (eU (eU (eU (eU w 14 ((w 13 3) * 4) side) 14 (((w 13 3) * 4) + 1) x) 14 (((w 13 3) * 4) + 2) y) 14 (((w 13 3) * 4) + 3) 0) 13 3 ((w 13 3) + 1))
set_option maxRecDepth 20000 in
theorem zX6_begin (w : eW) (side x y : Int) (hc : 0 ≤ w 13 3 ∧ w 13 3 < 280) : Cal mX6_begin [eR 13, (0, side), (0, x), (0, y)] w none (wX6_begin w side x y) := by
  have a1 : ¬ (((w 13 3) * 4) < 0) := by omega
  have a2 : (((w 13 3) * 4) + 3) < 1120 := by omega
  unfold wX6_begin
  refine Cal.of (by decide +kernel) (Nat.le_of_ble_eq_true rfl) ?_
  show Go _ 0 [(0, eR 13), (1, (0, side)), (2, (0, x)), (3, (0, y))] [] _ _ _
  refine go_aload_n (eD DX6_begin 0 rfl) rfl rfl (go_getI (kz := 3) (eD DX6_begin 1 rfl) fX6_18 (by decide) rfl rfl rfl (go_iconst (eD DX6_begin 2 rfl) (go_imul (eD DX6_begin 3 rfl) (go_istore (eD DX6_begin 4 rfl) (by decide) (go_iload (eD DX6_begin 5 rfl) rfl (go_if_ltF (tgt := 73) (eD DX6_begin 6 rfl) rfl (show eI ((w 13 3) * 4) from by omega) a1 (?_)))))))
  refine go_iload (eD DX6_begin 7 rfl) rfl (go_iconst (eD DX6_begin 8 rfl) (go_iadd (eD DX6_begin 9 rfl) (go_aload_n (eD DX6_begin 10 rfl) rfl rfl (go_getR (t := 14) (eD DX6_begin 11 rfl) fX6_11 (by decide) rfl ⟨rfl, rfl⟩ (go_alen (n := 1120) (eD DX6_begin 12 rfl) (by decide) rfl (by decide) (go_icmp_geF (tgt := 73) (eD DX6_begin 13 rfl) rfl (show eI (((w 13 3) * 4) + 3) from by omega) (by decide) (Int.not_le.mpr a2) (?_)))))))
  exact go_aload_n (eD DX6_begin 14 rfl) rfl rfl (go_getR (t := 14) (eD DX6_begin 15 rfl) fX6_11 (by decide) rfl ⟨rfl, rfl⟩ (go_iload (eD DX6_begin 16 rfl) rfl (go_iload_n (eD DX6_begin 17 rfl) rfl rfl (go_iast (n := 1120) (eD DX6_begin 18 rfl) (by decide) rfl (show 0 ≤ ((w 13 3) * 4) ∧ ((w 13 3) * 4) < 1120 from by omega) (go_aload_n (eD DX6_begin 19 rfl) rfl rfl (go_getR (t := 14) (eD DX6_begin 20 rfl) fX6_11 (by decide) rfl ⟨rfl, rfl⟩ (go_iload (eD DX6_begin 21 rfl) rfl (go_iconst (eD DX6_begin 22 rfl) (go_iadd (eD DX6_begin 23 rfl) (go_iload_n (eD DX6_begin 24 rfl) rfl rfl (go_iast (n := 1120) (eD DX6_begin 25 rfl) (by decide) rfl (show 0 ≤ (((w 13 3) * 4) + 1) ∧ (((w 13 3) * 4) + 1) < 1120 from by omega) (go_aload_n (eD DX6_begin 26 rfl) rfl rfl (go_getR (t := 14) (eD DX6_begin 27 rfl) fX6_11 (by decide) rfl ⟨rfl, rfl⟩ (go_iload (eD DX6_begin 28 rfl) rfl (go_iconst (eD DX6_begin 29 rfl) (go_iadd (eD DX6_begin 30 rfl) (go_iload_n (eD DX6_begin 31 rfl) rfl rfl (go_iast (n := 1120) (eD DX6_begin 32 rfl) (by decide) rfl (show 0 ≤ (((w 13 3) * 4) + 2) ∧ (((w 13 3) * 4) + 2) < 1120 from by omega) (go_aload_n (eD DX6_begin 33 rfl) rfl rfl (go_getR (t := 14) (eD DX6_begin 34 rfl) fX6_11 (by decide) rfl ⟨rfl, rfl⟩ (go_iload (eD DX6_begin 35 rfl) rfl (go_iconst (eD DX6_begin 36 rfl) (go_iadd (eD DX6_begin 37 rfl) (go_iconst (eD DX6_begin 38 rfl) (go_iast (n := 1120) (eD DX6_begin 39 rfl) (by decide) rfl (show 0 ≤ (((w 13 3) * 4) + 3) ∧ (((w 13 3) * 4) + 3) < 1120 from by omega) (go_aload_n (eD DX6_begin 40 rfl) rfl rfl (go_dup (eD DX6_begin 41 rfl) (by decide) (go_getI (kz := 3) (eD DX6_begin 42 rfl) fX6_18 (by decide) rfl rfl rfl (go_iconst (eD DX6_begin 43 rfl) (go_iadd (eD DX6_begin 44 rfl) (go_putI (kz := 3) (eD DX6_begin 45 rfl) fX6_18 (by decide) rfl rfl (fun q h => by cases h; exact ⟨rfl, rfl⟩) rfl (go_vret (eD DX6_begin 46 rfl) rfl))))))))))))))))))))))))))))))))
def wX6_lengthen (w : eW) (side x y : Int) : eW := (eU (eU w 14 (((w 13 3) * 4) - 1) ((w 14 (((w 13 3) * 4) - 1)) + 1)) 15 (((side * 140) + (y * 14)) + x) ((w 13 3) - 1))
set_option maxRecDepth 20000 in
theorem zX6_lengthen (w : eW) (side x y : Int) (hside : eI side) (hx : eI x) (hy : eI y) (hc : 1 ≤ w 13 3 ∧ w 13 3 ≤ 280) (hs : 0 ≤ side ∧ side < 4 ∧ 0 ≤ x ∧ x < 14 ∧ 0 ≤ y ∧ y < 10) : Cal mX6_lengthen [eR 13, (0, side), (0, x), (0, y)] w none (wX6_lengthen w side x y) := by
  have a1 : ¬ ((((w 13 3) * 4) - 1) < 0) := by omega
  have a2 : (((w 13 3) * 4) - 1) < 1120 := by omega
  have a3 : ¬ ((((side * 140) + (y * 14)) + x) < 0) := by omega
  have a4 : (((side * 140) + (y * 14)) + x) < 560 := by omega
  unfold wX6_lengthen
  refine Cal.of (by decide +kernel) (Nat.le_of_ble_eq_true rfl) ?_
  show Go _ 0 [(0, eR 13), (1, (0, side)), (2, (0, x)), (3, (0, y))] [] _ _ _
  refine go_aload_n (eD DX6_lengthen 0 rfl) rfl rfl (go_getI (kz := 3) (eD DX6_lengthen 1 rfl) fX6_18 (by decide) rfl rfl rfl (go_iconst (eD DX6_lengthen 2 rfl) (go_imul (eD DX6_lengthen 3 rfl) (go_iconst (eD DX6_lengthen 4 rfl) (go_isub (eD DX6_lengthen 5 rfl) (go_istore (eD DX6_lengthen 6 rfl) (by decide) (go_iload_n (eD DX6_lengthen 7 rfl) rfl rfl (go_sipush (eD DX6_lengthen 8 rfl) (by decide) (go_imul (eD DX6_lengthen 9 rfl) (go_iload_n (eD DX6_lengthen 10 rfl) rfl rfl (go_bipush (eD DX6_lengthen 11 rfl) (by decide) (go_imul (eD DX6_lengthen 12 rfl) (go_iadd (eD DX6_lengthen 13 rfl) (go_iload_n (eD DX6_lengthen 14 rfl) rfl rfl (go_iadd (eD DX6_lengthen 15 rfl) (go_istore (eD DX6_lengthen 16 rfl) (by decide) (go_iload (eD DX6_lengthen 17 rfl) rfl (go_if_ltF (tgt := 78) (eD DX6_lengthen 18 rfl) rfl (show eI (((w 13 3) * 4) - 1) from by omega) a1 (?_)))))))))))))))))))
  refine go_iload (eD DX6_lengthen 19 rfl) rfl (go_aload_n (eD DX6_lengthen 20 rfl) rfl rfl (go_getR (t := 14) (eD DX6_lengthen 21 rfl) fX6_11 (by decide) rfl ⟨rfl, rfl⟩ (go_alen (n := 1120) (eD DX6_lengthen 22 rfl) (by decide) rfl (by decide) (go_icmp_geF (tgt := 78) (eD DX6_lengthen 23 rfl) rfl (show eI (((w 13 3) * 4) - 1) from by omega) (by decide) (Int.not_le.mpr a2) (?_)))))
  refine go_iload (eD DX6_lengthen 24 rfl) rfl (go_if_ltF (tgt := 78) (eD DX6_lengthen 25 rfl) rfl (by omega) a3 (?_))
  refine go_iload (eD DX6_lengthen 26 rfl) rfl (go_aload_n (eD DX6_lengthen 27 rfl) rfl rfl (go_getR (t := 15) (eD DX6_lengthen 28 rfl) fX6_15 (by decide) rfl ⟨rfl, rfl⟩ (go_alen (n := 560) (eD DX6_lengthen 29 rfl) (by decide) rfl (by decide) (go_icmp_geF (tgt := 78) (eD DX6_lengthen 30 rfl) rfl (by omega) (by decide) (Int.not_le.mpr a4) (?_)))))
  exact go_aload_n (eD DX6_lengthen 31 rfl) rfl rfl (go_getR (t := 14) (eD DX6_lengthen 32 rfl) fX6_11 (by decide) rfl ⟨rfl, rfl⟩ (go_iload (eD DX6_lengthen 33 rfl) rfl (go_dup2 (eD DX6_lengthen 34 rfl) (by simp) (by simp) (go_iald (n := 1120) (eD DX6_lengthen 35 rfl) (by decide) rfl (show 0 ≤ (((w 13 3) * 4) - 1) ∧ (((w 13 3) * 4) - 1) < 1120 from by omega) (go_iconst (eD DX6_lengthen 36 rfl) (go_iadd (eD DX6_lengthen 37 rfl) (go_iast (n := 1120) (eD DX6_lengthen 38 rfl) (by decide) rfl (show 0 ≤ (((w 13 3) * 4) - 1) ∧ (((w 13 3) * 4) - 1) < 1120 from by omega) (go_aload_n (eD DX6_lengthen 39 rfl) rfl rfl (go_getR (t := 15) (eD DX6_lengthen 40 rfl) fX6_15 (by decide) rfl ⟨rfl, rfl⟩ (go_iload (eD DX6_lengthen 41 rfl) rfl (go_aload_n (eD DX6_lengthen 42 rfl) rfl rfl (go_getI (kz := 3) (eD DX6_lengthen 43 rfl) fX6_18 (by decide) rfl rfl rfl (go_iconst (eD DX6_lengthen 44 rfl) (go_isub (eD DX6_lengthen 45 rfl) (go_iast (n := 560) (eD DX6_lengthen 46 rfl) (by decide) rfl (by omega) (go_vret (eD DX6_lengthen 47 rfl) rfl))))))))))))))))
def rX6_has (w : eW) (i : Int) : Int := if i < 0 then 0 else (if i < (w 13 3) then 1 else 0)
set_option maxRecDepth 20000 in
theorem zX6_has (w : eW) (i : Int) (hi : eI i) (hc : eI (w 13 3)) : Cal mX6_has [eR 13, (0, i)] w (some (0, rX6_has w i)) w := by
  unfold rX6_has
  refine Cal.of (by decide +kernel) (Nat.le_of_ble_eq_true rfl) ?_
  show Go _ 0 [(0, eR 13), (1, (0, i))] [] _ _ _
  refine go_iload_n (eD DX6_has 0 rfl) rfl rfl (?_)
  by_cases h1 : i < 0
  · refine go_if_ltT (tgt := 16) (eD DX6_has 1 rfl) rfl (by omega) h1 ?_
    simp only [if_pos h1]
    exact go_iconst (eD DX6_has 8 rfl) (go_zret (eD DX6_has 9 rfl) rfl (by decide))
  · refine go_if_ltF (tgt := 16) (eD DX6_has 1 rfl) rfl (by omega) h1 ?_
    refine go_iload_n (eD DX6_has 2 rfl) rfl rfl (go_aload_n (eD DX6_has 3 rfl) rfl rfl (go_getI (kz := 3) (eD DX6_has 4 rfl) fX6_18 (by decide) rfl rfl rfl (?_)))
    by_cases h2 : i < (w 13 3)
    · refine go_icmp_geF (tgt := 16) (eD DX6_has 5 rfl) rfl (by omega) (show eI (w 13 3) from by omega) (Int.not_le.mpr h2) ?_
      simp only [if_neg h1, if_pos h2]
      exact go_iconst (eD DX6_has 6 rfl) (go_goto (tgt := 17) (eD DX6_has 7 rfl) rfl (go_zret (eD DX6_has 9 rfl) rfl (by decide)))
    · refine go_icmp_geT (tgt := 16) (eD DX6_has 5 rfl) rfl (by omega) (show eI (w 13 3) from by omega) (Int.not_lt.mp h2) ?_
      simp only [if_neg h1, if_neg h2]
      exact go_iconst (eD DX6_has 8 rfl) (go_zret (eD DX6_has 9 rfl) rfl (by decide))
theorem y_b_X6_has (w : eW) (i : Int) (hi : eI i) (hc : eI (w 13 3)) : Cal mX6_has [eR 13, (0, i)] w (some (0, if 0 ≤ i ∧ i < (w 13 3) then 1 else 0)) w := by
  refine Cal.as (zX6_has w i hi hc) ?_ rfl
  unfold rX6_has
  congr 2
  (repeat' split) <;> omega
def rX6_toldOf (w : eW) (i what : Int) : Int := w 14 ((i * 4) + what)
set_option maxRecDepth 20000 in
theorem zX6_toldOf (w : eW) (i what : Int) (hi : eI i) (hwhat : eI what) (hi2 : 0 ≤ i ∧ i < 280 ∧ 0 ≤ what ∧ what < 4) : Cal mX6_toldOf [eR 13, (0, i), (0, what)] w (some (0, rX6_toldOf w i what)) w := by
  have a1 : ¬ (((i * 4) + what) < 0) := by omega
  have a2 : ((i * 4) + what) < 1120 := by omega
  unfold rX6_toldOf
  refine Cal.of (by decide +kernel) (Nat.le_of_ble_eq_true rfl) ?_
  show Go _ 0 [(0, eR 13), (1, (0, i)), (2, (0, what))] [] _ _ _
  refine go_iload_n (eD DX6_toldOf 0 rfl) rfl rfl (go_iconst (eD DX6_toldOf 1 rfl) (go_imul (eD DX6_toldOf 2 rfl) (go_iload_n (eD DX6_toldOf 3 rfl) rfl rfl (go_iadd (eD DX6_toldOf 4 rfl) (go_istore_n (eD DX6_toldOf 5 rfl) rfl (by decide) (go_iload_n (eD DX6_toldOf 6 rfl) rfl rfl (go_if_ltF (tgt := 28) (eD DX6_toldOf 7 rfl) rfl (by omega) a1 (?_))))))))
  refine go_iload_n (eD DX6_toldOf 8 rfl) rfl rfl (go_aload_n (eD DX6_toldOf 9 rfl) rfl rfl (go_getR (t := 14) (eD DX6_toldOf 10 rfl) fX6_11 (by decide) rfl ⟨rfl, rfl⟩ (go_alen (n := 1120) (eD DX6_toldOf 11 rfl) (by decide) rfl (by decide) (go_icmp_geF (tgt := 28) (eD DX6_toldOf 12 rfl) rfl (by omega) (by decide) (Int.not_le.mpr a2) (?_)))))
  exact go_aload_n (eD DX6_toldOf 13 rfl) rfl rfl (go_getR (t := 14) (eD DX6_toldOf 14 rfl) fX6_11 (by decide) rfl ⟨rfl, rfl⟩ (go_iload_n (eD DX6_toldOf 15 rfl) rfl rfl (go_iald (n := 1120) (eD DX6_toldOf 16 rfl) (by decide) rfl (by omega) (go_goto (tgt := 29) (eD DX6_toldOf 17 rfl) rfl (go_iret (eD DX6_toldOf 19 rfl) rfl)))))
def rX6_wallAt (w : eW) (x y side : Int) : Int := w 15 (((side * 140) + (y * 14)) + x)
set_option maxRecDepth 20000 in
theorem zX6_wallAt (w : eW) (x y side : Int) (hx : eI x) (hy : eI y) (hside : eI side) (hs : 0 ≤ side ∧ side < 4 ∧ 0 ≤ x ∧ x < 14 ∧ 0 ≤ y ∧ y < 10) : Cal mX6_wallAt [eR 13, (0, x), (0, y), (0, side)] w (some (0, rX6_wallAt w x y side)) w := by
  have a1 : ¬ ((((side * 140) + (y * 14)) + x) < 0) := by omega
  have a2 : (((side * 140) + (y * 14)) + x) < 560 := by omega
  unfold rX6_wallAt
  refine Cal.of (by decide +kernel) (Nat.le_of_ble_eq_true rfl) ?_
  show Go _ 0 [(0, eR 13), (1, (0, x)), (2, (0, y)), (3, (0, side))] [] _ _ _
  refine go_iload_n (eD DX6_wallAt 0 rfl) rfl rfl (go_sipush (eD DX6_wallAt 1 rfl) (by decide) (go_imul (eD DX6_wallAt 2 rfl) (go_iload_n (eD DX6_wallAt 3 rfl) rfl rfl (go_bipush (eD DX6_wallAt 4 rfl) (by decide) (go_imul (eD DX6_wallAt 5 rfl) (go_iadd (eD DX6_wallAt 6 rfl) (go_iload_n (eD DX6_wallAt 7 rfl) rfl rfl (go_iadd (eD DX6_wallAt 8 rfl) (go_istore (eD DX6_wallAt 9 rfl) (by decide) (go_iload (eD DX6_wallAt 10 rfl) rfl (go_if_ltF (tgt := 39) (eD DX6_wallAt 11 rfl) rfl (by omega) a1 (?_))))))))))))
  refine go_iload (eD DX6_wallAt 12 rfl) rfl (go_aload_n (eD DX6_wallAt 13 rfl) rfl rfl (go_getR (t := 15) (eD DX6_wallAt 14 rfl) fX6_15 (by decide) rfl ⟨rfl, rfl⟩ (go_alen (n := 560) (eD DX6_wallAt 15 rfl) (by decide) rfl (by decide) (go_icmp_geF (tgt := 39) (eD DX6_wallAt 16 rfl) rfl (by omega) (by decide) (Int.not_le.mpr a2) (?_)))))
  exact go_aload_n (eD DX6_wallAt 17 rfl) rfl rfl (go_getR (t := 15) (eD DX6_wallAt 18 rfl) fX6_15 (by decide) rfl ⟨rfl, rfl⟩ (go_iload (eD DX6_wallAt 19 rfl) rfl (go_iald (n := 560) (eD DX6_wallAt 20 rfl) (by decide) rfl (by omega) (go_goto (tgt := 41) (eD DX6_wallAt 21 rfl) rfl (go_iret (eD DX6_wallAt 23 rfl) rfl)))))
set_option maxRecDepth 20000 in
theorem tX6_buildLane0_0 {r : Option eV} {w9 : eW} (w : eW) (lane : Int) (hB : HB w) (k1 : Go mX6_buildLane 29 [(0, eR 13), (1, (0, 0)), (2, (0, lane)), (3, (0, 1)), (4, (0, w 2 0)), (5, (0, 0)), (6, (0, 0))] [] w r w9) : Go mX6_buildLane 0 [(0, eR 13), (1, (0, 0)), (2, (0, lane)), (3, (0, 1))] [] w r w9 := by
  obtain ⟨⟨b1, b2, b3, b4, b5, b6⟩, b7, b8, b9⟩ := id hB
  refine go_iload_n (eD DX6_buildLane 0 rfl) rfl rfl (go_if_eqF (tgt := 14) (eD DX6_buildLane 1 rfl) rfl (by decide) (show ¬ ((1 : Int) = 0) from by decide) (?_))
  exact go_aload_n (eD DX6_buildLane 2 rfl) rfl rfl (go_getR (t := 2) (eD DX6_buildLane 3 rfl) fX6_26 (by decide) rfl ⟨rfl, rfl⟩ (go_getI (kz := 0) (eD DX6_buildLane 4 rfl) fX6_41 (by decide) rfl rfl rfl (go_goto (tgt := 21) (eD DX6_buildLane 5 rfl) rfl (go_istore (eD DX6_buildLane 9 rfl) (by decide) (go_iconst (eD DX6_buildLane 10 rfl) (go_istore (eD DX6_buildLane 11 rfl) (by decide) (go_iconst (eD DX6_buildLane 12 rfl) (go_istore (eD DX6_buildLane 13 rfl) (by decide) (Go.pick [3, 4, 5, 6, 2, 1, 0] rfl (k1))))))))))
set_option maxRecDepth 20000 in
theorem tX6_buildLane0_29 {r : Option eV} {w9 : eW} (w : eW) (lane steps within step : Int) (hB : HB w) (hc : 0 ≤ w 13 3 ∧ w 13 3 ≤ 280) (hc2 : within = 0 → step < steps → w 13 3 < 280) (hn : steps = (w 2 0)) (hl : 0 ≤ lane ∧ lane < (w 2 1)) (hs : 0 ≤ step ∧ step ≤ steps) (hw : within = 0 ∨ (within = 1 ∧ 1 ≤ w 13 3)) (k1 : step < steps → insC w step lane → insC w step (lane - 1) → Go mX6_buildLane 29 [(0, eR 13), (1, (0, 0)), (2, (0, lane)), (3, (0, 1)), (4, (0, steps)), (5, (0, 0)), (6, (0, step + 1))] [] w r w9) (k2 : step < steps → insC w step lane → ¬ (insC w step (lane - 1)) → within = 0 → Go mX6_buildLane 29 [(0, eR 13), (1, (0, 0)), (2, (0, lane)), (3, (0, 1)), (4, (0, steps)), (5, (0, 1)), (6, (0, step + 1))] [] (wX6_lengthen (wX6_begin w 0 step lane) 0 step lane) r w9) (k3 : step < steps → insC w step lane → ¬ (insC w step (lane - 1)) → ¬ (within = 0) → Go mX6_buildLane 29 [(0, eR 13), (1, (0, 0)), (2, (0, lane)), (3, (0, 1)), (4, (0, steps)), (5, (0, 1)), (6, (0, step + 1))] [] (wX6_lengthen w 0 step lane) r w9) (k4 : step < steps → ¬ (insC w step lane) → Go mX6_buildLane 29 [(0, eR 13), (1, (0, 0)), (2, (0, lane)), (3, (0, 1)), (4, (0, steps)), (5, (0, 0)), (6, (0, step + 1))] [] w r w9) (k5 : ¬ (step < steps) → r = none ∧ w9 = w) : Go mX6_buildLane 29 [(0, eR 13), (1, (0, 0)), (2, (0, lane)), (3, (0, 1)), (4, (0, steps)), (5, (0, within)), (6, (0, step))] [] w r w9 := by
  obtain ⟨⟨b1, b2, b3, b4, b5, b6⟩, b7, b8, b9⟩ := id hB
  have hb3 : wX6_begin w 0 step lane 13 3 = w 13 3 + 1 := rfl
  refine go_iload (eD DX6_buildLane 14 rfl) rfl (go_iload (eD DX6_buildLane 15 rfl) rfl (?_))
  by_cases h1 : step < steps
  · refine go_icmp_geF (tgt := 146) (eD DX6_buildLane 16 rfl) rfl (by omega) (by omega) (Int.not_le.mpr h1) ?_
    refine go_iload_n (eD DX6_buildLane 17 rfl) rfl rfl (go_if_eqF (tgt := 45) (eD DX6_buildLane 18 rfl) rfl (by decide) (show ¬ ((1 : Int) = 0) from by decide) (?_))
    refine go_iload (eD DX6_buildLane 19 rfl) rfl (go_goto (tgt := 46) (eD DX6_buildLane 20 rfl) rfl (go_istore (eD DX6_buildLane 22 rfl) (by decide) (go_iload_n (eD DX6_buildLane 23 rfl) rfl rfl (go_if_eqF (tgt := 56) (eD DX6_buildLane 24 rfl) rfl (by decide) (show ¬ ((1 : Int) = 0) from by decide) (?_)))))
    refine go_iload_n (eD DX6_buildLane 25 rfl) rfl rfl (go_goto (tgt := 58) (eD DX6_buildLane 26 rfl) rfl (go_istore (eD DX6_buildLane 28 rfl) (by decide) (go_aload_n (eD DX6_buildLane 29 rfl) rfl rfl (go_getR (t := 2) (eD DX6_buildLane 30 rfl) fX6_26 (by decide) rfl ⟨rfl, rfl⟩ (go_iload (eD DX6_buildLane 31 rfl) rfl (go_iload (eD DX6_buildLane 32 rfl) rfl (go_callV (ci := 0) [(0, step), (0, lane)] (eD DX6_buildLane 33 rfl) ⟨eMem 3 5 rfl rfl, sX0_isInside⟩ ⟨Nat.le_of_ble_eq_true rfl, Nat.le_of_ble_eq_true rfl⟩ (by decide) ⟨rfl, by decide, _, rfl, rfl⟩ rfl rfl (Nat.le_of_ble_eq_true rfl) (y_b_X0_isInside w step lane (by omega) (by omega) (by assumption)) (?_))))))))
    by_cases h2 : insC w step lane
    · refine go_if_eqF (tgt := 100) (eD DX6_buildLane 34 rfl) rfl (eI_pI _) (pI1 h2) ?_
      refine go_aload_n (eD DX6_buildLane 35 rfl) rfl rfl (go_getR (t := 2) (eD DX6_buildLane 36 rfl) fX6_26 (by decide) rfl ⟨rfl, rfl⟩ (go_iload (eD DX6_buildLane 37 rfl) rfl (go_iload_n (eD DX6_buildLane 38 rfl) rfl rfl (?_))))
      refine go_callS [(0, step), (0, 0)] (eD DX6_buildLane 39 rfl) ⟨eMem 3 13 rfl rfl, sX6_besideX⟩ ⟨Nat.le_of_ble_eq_true rfl, Nat.le_of_ble_eq_true rfl⟩ rfl rfl (Nat.le_of_ble_eq_true rfl) (Cal.as (zX6_besideX w step 0 (by decide) ) (r2 := some (0, step)) (w2 := w) (by (try simp only [rX6_besideX, if_pos h1, if_pos h2]) <;> (try rfl)) rfl) (?_)
      refine go_iload (eD DX6_buildLane 40 rfl) rfl (go_iload_n (eD DX6_buildLane 41 rfl) rfl rfl (?_))
      refine go_callS [(0, lane), (0, 0)] (eD DX6_buildLane 42 rfl) ⟨eMem 3 16 rfl rfl, sX6_besideY⟩ ⟨Nat.le_of_ble_eq_true rfl, Nat.le_of_ble_eq_true rfl⟩ rfl rfl (Nat.le_of_ble_eq_true rfl) (Cal.as (zX6_besideY w lane 0 (by decide) ) (r2 := some (0, lane - 1)) (w2 := w) (by (try simp only [rX6_besideY, if_pos h1, if_pos h2]) <;> (try rfl)) rfl) (?_)
      refine go_callV (ci := 0) [(0, step), (0, lane - 1)] (eD DX6_buildLane 43 rfl) ⟨eMem 3 5 rfl rfl, sX0_isInside⟩ ⟨Nat.le_of_ble_eq_true rfl, Nat.le_of_ble_eq_true rfl⟩ (by decide) ⟨rfl, by decide, _, rfl, rfl⟩ rfl rfl (Nat.le_of_ble_eq_true rfl) (y_b_X0_isInside w step (lane - 1) (by omega) (by omega) (by assumption)) (?_)
      by_cases h3 : insC w step (lane - 1)
      · refine go_if_neT (tgt := 100) (eD DX6_buildLane 44 rfl) rfl (eI_pI _) (pI1 h3) ?_
        refine go_iconst (eD DX6_buildLane 47 rfl) (go_istore (eD DX6_buildLane 48 rfl) (by decide) (go_iload (eD DX6_buildLane 49 rfl) rfl (go_if_eqT (tgt := 122) (eD DX6_buildLane 50 rfl) rfl (by decide) (show (0 : Int) = 0 from by decide) (?_))))
        refine go_iload (eD DX6_buildLane 58 rfl) rfl (go_if_eqT (tgt := 136) (eD DX6_buildLane 59 rfl) rfl (by decide) (show (0 : Int) = 0 from by decide) (?_))
        exact go_iload (eD DX6_buildLane 65 rfl) rfl (go_istore (eD DX6_buildLane 66 rfl) (by decide) (go_iinc (eD DX6_buildLane 67 rfl) rfl (by decide) (go_goto (tgt := 29) (eD DX6_buildLane 68 rfl) rfl (Go.pick [5, 6, 7, 8, 9, 1, 0] rfl (k1 h1 h2 h3)))))
      · refine go_if_neF (tgt := 100) (eD DX6_buildLane 44 rfl) rfl (eI_pI _) (not_not_intro (pI0 h3)) ?_
        refine go_iconst (eD DX6_buildLane 45 rfl) (go_goto (tgt := 101) (eD DX6_buildLane 46 rfl) rfl (go_istore (eD DX6_buildLane 48 rfl) (by decide) (go_iload (eD DX6_buildLane 49 rfl) rfl (go_if_eqF (tgt := 122) (eD DX6_buildLane 50 rfl) rfl (by decide) (show ¬ ((1 : Int) = 0) from by decide) (?_)))))
        refine go_iload (eD DX6_buildLane 51 rfl) rfl (?_)
        by_cases h4 : within = 0
        · refine go_if_neF (tgt := 122) (eD DX6_buildLane 52 rfl) rfl (by omega) (not_not_intro h4) ?_
          refine go_aload_n (eD DX6_buildLane 53 rfl) rfl rfl (go_iload_n (eD DX6_buildLane 54 rfl) rfl rfl (go_iload (eD DX6_buildLane 55 rfl) rfl (go_iload (eD DX6_buildLane 56 rfl) rfl (go_callV (ci := 6) [(0, 0), (0, step), (0, lane)] (eD DX6_buildLane 57 rfl) ⟨eMem 3 19 rfl rfl, sX6_begin⟩ ⟨Nat.le_of_ble_eq_true rfl, Nat.le_of_ble_eq_true rfl⟩ (by decide) ⟨rfl, by decide, _, rfl, rfl⟩ rfl rfl (Nat.le_of_ble_eq_true rfl) (zX6_begin w 0 step lane  (by first | assumption | omega)) (go_iload (eD DX6_buildLane 58 rfl) rfl (go_if_eqF (tgt := 136) (eD DX6_buildLane 59 rfl) rfl (by decide) (show ¬ ((1 : Int) = 0) from by decide) (?_)))))))
          exact go_aload_n (eD DX6_buildLane 60 rfl) rfl rfl (go_iload_n (eD DX6_buildLane 61 rfl) rfl rfl (go_iload (eD DX6_buildLane 62 rfl) rfl (go_iload (eD DX6_buildLane 63 rfl) rfl (go_callV (ci := 6) [(0, 0), (0, step), (0, lane)] (eD DX6_buildLane 64 rfl) ⟨eMem 3 23 rfl rfl, sX6_lengthen⟩ ⟨Nat.le_of_ble_eq_true rfl, Nat.le_of_ble_eq_true rfl⟩ (by decide) ⟨rfl, by decide, _, rfl, rfl⟩ rfl rfl (Nat.le_of_ble_eq_true rfl) (zX6_lengthen (wX6_begin w 0 step lane) 0 step lane (by decide) (by omega) (by omega) (by first | assumption | omega) (by first | assumption | omega)) (go_iload (eD DX6_buildLane 65 rfl) rfl (go_istore (eD DX6_buildLane 66 rfl) (by decide) (go_iinc (eD DX6_buildLane 67 rfl) rfl (by decide) (go_goto (tgt := 29) (eD DX6_buildLane 68 rfl) rfl (Go.pick [5, 6, 7, 8, 9, 1, 0] rfl (k2 h1 h2 h3 h4))))))))))
        · refine go_if_neT (tgt := 122) (eD DX6_buildLane 52 rfl) rfl (by omega) h4 ?_
          refine go_iload (eD DX6_buildLane 58 rfl) rfl (go_if_eqF (tgt := 136) (eD DX6_buildLane 59 rfl) rfl (by decide) (show ¬ ((1 : Int) = 0) from by decide) (?_))
          exact go_aload_n (eD DX6_buildLane 60 rfl) rfl rfl (go_iload_n (eD DX6_buildLane 61 rfl) rfl rfl (go_iload (eD DX6_buildLane 62 rfl) rfl (go_iload (eD DX6_buildLane 63 rfl) rfl (go_callV (ci := 6) [(0, 0), (0, step), (0, lane)] (eD DX6_buildLane 64 rfl) ⟨eMem 3 23 rfl rfl, sX6_lengthen⟩ ⟨Nat.le_of_ble_eq_true rfl, Nat.le_of_ble_eq_true rfl⟩ (by decide) ⟨rfl, by decide, _, rfl, rfl⟩ rfl rfl (Nat.le_of_ble_eq_true rfl) (zX6_lengthen w 0 step lane (by decide) (by omega) (by omega) (by first | assumption | omega) (by first | assumption | omega)) (go_iload (eD DX6_buildLane 65 rfl) rfl (go_istore (eD DX6_buildLane 66 rfl) (by decide) (go_iinc (eD DX6_buildLane 67 rfl) rfl (by decide) (go_goto (tgt := 29) (eD DX6_buildLane 68 rfl) rfl (Go.pick [5, 6, 7, 8, 9, 1, 0] rfl (k3 h1 h2 h3 h4))))))))))
    · refine go_if_eqT (tgt := 100) (eD DX6_buildLane 34 rfl) rfl (eI_pI _) (pI0 h2) ?_
      refine go_iconst (eD DX6_buildLane 47 rfl) (go_istore (eD DX6_buildLane 48 rfl) (by decide) (go_iload (eD DX6_buildLane 49 rfl) rfl (go_if_eqT (tgt := 122) (eD DX6_buildLane 50 rfl) rfl (by decide) (show (0 : Int) = 0 from by decide) (?_))))
      refine go_iload (eD DX6_buildLane 58 rfl) rfl (go_if_eqT (tgt := 136) (eD DX6_buildLane 59 rfl) rfl (by decide) (show (0 : Int) = 0 from by decide) (?_))
      exact go_iload (eD DX6_buildLane 65 rfl) rfl (go_istore (eD DX6_buildLane 66 rfl) (by decide) (go_iinc (eD DX6_buildLane 67 rfl) rfl (by decide) (go_goto (tgt := 29) (eD DX6_buildLane 68 rfl) rfl (Go.pick [5, 6, 7, 8, 9, 1, 0] rfl (k4 h1 h2)))))
  · refine go_icmp_geT (tgt := 146) (eD DX6_buildLane 16 rfl) rfl (by omega) (by omega) (Int.not_lt.mp h1) ?_
    rw [(k5 h1).1, (k5 h1).2]
    exact go_vret (eD DX6_buildLane 69 rfl) rfl
set_option maxRecDepth 20000 in
theorem tX6_buildLane1_0 {r : Option eV} {w9 : eW} (w : eW) (lane : Int) (hB : HB w) (k1 : Go mX6_buildLane 29 [(0, eR 13), (1, (0, 1)), (2, (0, lane)), (3, (0, 0)), (4, (0, w 2 1)), (5, (0, 0)), (6, (0, 0))] [] w r w9) : Go mX6_buildLane 0 [(0, eR 13), (1, (0, 1)), (2, (0, lane)), (3, (0, 0))] [] w r w9 := by
  obtain ⟨⟨b1, b2, b3, b4, b5, b6⟩, b7, b8, b9⟩ := id hB
  refine go_iload_n (eD DX6_buildLane 0 rfl) rfl rfl (go_if_eqT (tgt := 14) (eD DX6_buildLane 1 rfl) rfl (by decide) (show (0 : Int) = 0 from by decide) (?_))
  exact go_aload_n (eD DX6_buildLane 6 rfl) rfl rfl (go_getR (t := 2) (eD DX6_buildLane 7 rfl) fX6_26 (by decide) rfl ⟨rfl, rfl⟩ (go_getI (kz := 1) (eD DX6_buildLane 8 rfl) fX6_36 (by decide) rfl rfl rfl (go_istore (eD DX6_buildLane 9 rfl) (by decide) (go_iconst (eD DX6_buildLane 10 rfl) (go_istore (eD DX6_buildLane 11 rfl) (by decide) (go_iconst (eD DX6_buildLane 12 rfl) (go_istore (eD DX6_buildLane 13 rfl) (by decide) (Go.pick [3, 4, 5, 6, 2, 1, 0] rfl (k1)))))))))
set_option maxRecDepth 20000 in
theorem tX6_buildLane1_29 {r : Option eV} {w9 : eW} (w : eW) (lane steps within step : Int) (hB : HB w) (hc : 0 ≤ w 13 3 ∧ w 13 3 ≤ 280) (hc2 : within = 0 → step < steps → w 13 3 < 280) (hn : steps = (w 2 1)) (hl : 0 ≤ lane ∧ lane < (w 2 0)) (hs : 0 ≤ step ∧ step ≤ steps) (hw : within = 0 ∨ (within = 1 ∧ 1 ≤ w 13 3)) (k1 : step < steps → insC w lane step → insC w (lane + 1) step → Go mX6_buildLane 29 [(0, eR 13), (1, (0, 1)), (2, (0, lane)), (3, (0, 0)), (4, (0, steps)), (5, (0, 0)), (6, (0, step + 1))] [] w r w9) (k2 : step < steps → insC w lane step → ¬ (insC w (lane + 1) step) → within = 0 → Go mX6_buildLane 29 [(0, eR 13), (1, (0, 1)), (2, (0, lane)), (3, (0, 0)), (4, (0, steps)), (5, (0, 1)), (6, (0, step + 1))] [] (wX6_lengthen (wX6_begin w 1 lane step) 1 lane step) r w9) (k3 : step < steps → insC w lane step → ¬ (insC w (lane + 1) step) → ¬ (within = 0) → Go mX6_buildLane 29 [(0, eR 13), (1, (0, 1)), (2, (0, lane)), (3, (0, 0)), (4, (0, steps)), (5, (0, 1)), (6, (0, step + 1))] [] (wX6_lengthen w 1 lane step) r w9) (k4 : step < steps → ¬ (insC w lane step) → Go mX6_buildLane 29 [(0, eR 13), (1, (0, 1)), (2, (0, lane)), (3, (0, 0)), (4, (0, steps)), (5, (0, 0)), (6, (0, step + 1))] [] w r w9) (k5 : ¬ (step < steps) → r = none ∧ w9 = w) : Go mX6_buildLane 29 [(0, eR 13), (1, (0, 1)), (2, (0, lane)), (3, (0, 0)), (4, (0, steps)), (5, (0, within)), (6, (0, step))] [] w r w9 := by
  obtain ⟨⟨b1, b2, b3, b4, b5, b6⟩, b7, b8, b9⟩ := id hB
  have hb3 : wX6_begin w 1 lane step 13 3 = w 13 3 + 1 := rfl
  refine go_iload (eD DX6_buildLane 14 rfl) rfl (go_iload (eD DX6_buildLane 15 rfl) rfl (?_))
  by_cases h1 : step < steps
  · refine go_icmp_geF (tgt := 146) (eD DX6_buildLane 16 rfl) rfl (by omega) (by omega) (Int.not_le.mpr h1) ?_
    refine go_iload_n (eD DX6_buildLane 17 rfl) rfl rfl (go_if_eqT (tgt := 45) (eD DX6_buildLane 18 rfl) rfl (by decide) (show (0 : Int) = 0 from by decide) (?_))
    refine go_iload_n (eD DX6_buildLane 21 rfl) rfl rfl (go_istore (eD DX6_buildLane 22 rfl) (by decide) (go_iload_n (eD DX6_buildLane 23 rfl) rfl rfl (go_if_eqT (tgt := 56) (eD DX6_buildLane 24 rfl) rfl (by decide) (show (0 : Int) = 0 from by decide) (?_))))
    refine go_iload (eD DX6_buildLane 27 rfl) rfl (go_istore (eD DX6_buildLane 28 rfl) (by decide) (go_aload_n (eD DX6_buildLane 29 rfl) rfl rfl (go_getR (t := 2) (eD DX6_buildLane 30 rfl) fX6_26 (by decide) rfl ⟨rfl, rfl⟩ (go_iload (eD DX6_buildLane 31 rfl) rfl (go_iload (eD DX6_buildLane 32 rfl) rfl (go_callV (ci := 0) [(0, lane), (0, step)] (eD DX6_buildLane 33 rfl) ⟨eMem 3 5 rfl rfl, sX0_isInside⟩ ⟨Nat.le_of_ble_eq_true rfl, Nat.le_of_ble_eq_true rfl⟩ (by decide) ⟨rfl, by decide, _, rfl, rfl⟩ rfl rfl (Nat.le_of_ble_eq_true rfl) (y_b_X0_isInside w lane step (by omega) (by omega) (by assumption)) (?_)))))))
    by_cases h2 : insC w lane step
    · refine go_if_eqF (tgt := 100) (eD DX6_buildLane 34 rfl) rfl (eI_pI _) (pI1 h2) ?_
      refine go_aload_n (eD DX6_buildLane 35 rfl) rfl rfl (go_getR (t := 2) (eD DX6_buildLane 36 rfl) fX6_26 (by decide) rfl ⟨rfl, rfl⟩ (go_iload (eD DX6_buildLane 37 rfl) rfl (go_iload_n (eD DX6_buildLane 38 rfl) rfl rfl (?_))))
      refine go_callS [(0, lane), (0, 1)] (eD DX6_buildLane 39 rfl) ⟨eMem 3 13 rfl rfl, sX6_besideX⟩ ⟨Nat.le_of_ble_eq_true rfl, Nat.le_of_ble_eq_true rfl⟩ rfl rfl (Nat.le_of_ble_eq_true rfl) (Cal.as (zX6_besideX w lane 1 (by decide) ) (r2 := some (0, lane + 1)) (w2 := w) (by (try simp only [rX6_besideX, if_pos h1, if_pos h2]) <;> (try rfl)) rfl) (?_)
      refine go_iload (eD DX6_buildLane 40 rfl) rfl (go_iload_n (eD DX6_buildLane 41 rfl) rfl rfl (?_))
      refine go_callS [(0, step), (0, 1)] (eD DX6_buildLane 42 rfl) ⟨eMem 3 16 rfl rfl, sX6_besideY⟩ ⟨Nat.le_of_ble_eq_true rfl, Nat.le_of_ble_eq_true rfl⟩ rfl rfl (Nat.le_of_ble_eq_true rfl) (Cal.as (zX6_besideY w step 1 (by decide) ) (r2 := some (0, step)) (w2 := w) (by (try simp only [rX6_besideY, if_pos h1, if_pos h2]) <;> (try rfl)) rfl) (?_)
      refine go_callV (ci := 0) [(0, lane + 1), (0, step)] (eD DX6_buildLane 43 rfl) ⟨eMem 3 5 rfl rfl, sX0_isInside⟩ ⟨Nat.le_of_ble_eq_true rfl, Nat.le_of_ble_eq_true rfl⟩ (by decide) ⟨rfl, by decide, _, rfl, rfl⟩ rfl rfl (Nat.le_of_ble_eq_true rfl) (y_b_X0_isInside w (lane + 1) step (by omega) (by omega) (by assumption)) (?_)
      by_cases h3 : insC w (lane + 1) step
      · refine go_if_neT (tgt := 100) (eD DX6_buildLane 44 rfl) rfl (eI_pI _) (pI1 h3) ?_
        refine go_iconst (eD DX6_buildLane 47 rfl) (go_istore (eD DX6_buildLane 48 rfl) (by decide) (go_iload (eD DX6_buildLane 49 rfl) rfl (go_if_eqT (tgt := 122) (eD DX6_buildLane 50 rfl) rfl (by decide) (show (0 : Int) = 0 from by decide) (?_))))
        refine go_iload (eD DX6_buildLane 58 rfl) rfl (go_if_eqT (tgt := 136) (eD DX6_buildLane 59 rfl) rfl (by decide) (show (0 : Int) = 0 from by decide) (?_))
        exact go_iload (eD DX6_buildLane 65 rfl) rfl (go_istore (eD DX6_buildLane 66 rfl) (by decide) (go_iinc (eD DX6_buildLane 67 rfl) rfl (by decide) (go_goto (tgt := 29) (eD DX6_buildLane 68 rfl) rfl (Go.pick [5, 6, 7, 8, 9, 1, 0] rfl (k1 h1 h2 h3)))))
      · refine go_if_neF (tgt := 100) (eD DX6_buildLane 44 rfl) rfl (eI_pI _) (not_not_intro (pI0 h3)) ?_
        refine go_iconst (eD DX6_buildLane 45 rfl) (go_goto (tgt := 101) (eD DX6_buildLane 46 rfl) rfl (go_istore (eD DX6_buildLane 48 rfl) (by decide) (go_iload (eD DX6_buildLane 49 rfl) rfl (go_if_eqF (tgt := 122) (eD DX6_buildLane 50 rfl) rfl (by decide) (show ¬ ((1 : Int) = 0) from by decide) (?_)))))
        refine go_iload (eD DX6_buildLane 51 rfl) rfl (?_)
        by_cases h4 : within = 0
        · refine go_if_neF (tgt := 122) (eD DX6_buildLane 52 rfl) rfl (by omega) (not_not_intro h4) ?_
          refine go_aload_n (eD DX6_buildLane 53 rfl) rfl rfl (go_iload_n (eD DX6_buildLane 54 rfl) rfl rfl (go_iload (eD DX6_buildLane 55 rfl) rfl (go_iload (eD DX6_buildLane 56 rfl) rfl (go_callV (ci := 6) [(0, 1), (0, lane), (0, step)] (eD DX6_buildLane 57 rfl) ⟨eMem 3 19 rfl rfl, sX6_begin⟩ ⟨Nat.le_of_ble_eq_true rfl, Nat.le_of_ble_eq_true rfl⟩ (by decide) ⟨rfl, by decide, _, rfl, rfl⟩ rfl rfl (Nat.le_of_ble_eq_true rfl) (zX6_begin w 1 lane step  (by first | assumption | omega)) (go_iload (eD DX6_buildLane 58 rfl) rfl (go_if_eqF (tgt := 136) (eD DX6_buildLane 59 rfl) rfl (by decide) (show ¬ ((1 : Int) = 0) from by decide) (?_)))))))
          exact go_aload_n (eD DX6_buildLane 60 rfl) rfl rfl (go_iload_n (eD DX6_buildLane 61 rfl) rfl rfl (go_iload (eD DX6_buildLane 62 rfl) rfl (go_iload (eD DX6_buildLane 63 rfl) rfl (go_callV (ci := 6) [(0, 1), (0, lane), (0, step)] (eD DX6_buildLane 64 rfl) ⟨eMem 3 23 rfl rfl, sX6_lengthen⟩ ⟨Nat.le_of_ble_eq_true rfl, Nat.le_of_ble_eq_true rfl⟩ (by decide) ⟨rfl, by decide, _, rfl, rfl⟩ rfl rfl (Nat.le_of_ble_eq_true rfl) (zX6_lengthen (wX6_begin w 1 lane step) 1 lane step (by decide) (by omega) (by omega) (by first | assumption | omega) (by first | assumption | omega)) (go_iload (eD DX6_buildLane 65 rfl) rfl (go_istore (eD DX6_buildLane 66 rfl) (by decide) (go_iinc (eD DX6_buildLane 67 rfl) rfl (by decide) (go_goto (tgt := 29) (eD DX6_buildLane 68 rfl) rfl (Go.pick [5, 6, 7, 8, 9, 1, 0] rfl (k2 h1 h2 h3 h4))))))))))
        · refine go_if_neT (tgt := 122) (eD DX6_buildLane 52 rfl) rfl (by omega) h4 ?_
          refine go_iload (eD DX6_buildLane 58 rfl) rfl (go_if_eqF (tgt := 136) (eD DX6_buildLane 59 rfl) rfl (by decide) (show ¬ ((1 : Int) = 0) from by decide) (?_))
          exact go_aload_n (eD DX6_buildLane 60 rfl) rfl rfl (go_iload_n (eD DX6_buildLane 61 rfl) rfl rfl (go_iload (eD DX6_buildLane 62 rfl) rfl (go_iload (eD DX6_buildLane 63 rfl) rfl (go_callV (ci := 6) [(0, 1), (0, lane), (0, step)] (eD DX6_buildLane 64 rfl) ⟨eMem 3 23 rfl rfl, sX6_lengthen⟩ ⟨Nat.le_of_ble_eq_true rfl, Nat.le_of_ble_eq_true rfl⟩ (by decide) ⟨rfl, by decide, _, rfl, rfl⟩ rfl rfl (Nat.le_of_ble_eq_true rfl) (zX6_lengthen w 1 lane step (by decide) (by omega) (by omega) (by first | assumption | omega) (by first | assumption | omega)) (go_iload (eD DX6_buildLane 65 rfl) rfl (go_istore (eD DX6_buildLane 66 rfl) (by decide) (go_iinc (eD DX6_buildLane 67 rfl) rfl (by decide) (go_goto (tgt := 29) (eD DX6_buildLane 68 rfl) rfl (Go.pick [5, 6, 7, 8, 9, 1, 0] rfl (k3 h1 h2 h3 h4))))))))))
    · refine go_if_eqT (tgt := 100) (eD DX6_buildLane 34 rfl) rfl (eI_pI _) (pI0 h2) ?_
      refine go_iconst (eD DX6_buildLane 47 rfl) (go_istore (eD DX6_buildLane 48 rfl) (by decide) (go_iload (eD DX6_buildLane 49 rfl) rfl (go_if_eqT (tgt := 122) (eD DX6_buildLane 50 rfl) rfl (by decide) (show (0 : Int) = 0 from by decide) (?_))))
      refine go_iload (eD DX6_buildLane 58 rfl) rfl (go_if_eqT (tgt := 136) (eD DX6_buildLane 59 rfl) rfl (by decide) (show (0 : Int) = 0 from by decide) (?_))
      exact go_iload (eD DX6_buildLane 65 rfl) rfl (go_istore (eD DX6_buildLane 66 rfl) (by decide) (go_iinc (eD DX6_buildLane 67 rfl) rfl (by decide) (go_goto (tgt := 29) (eD DX6_buildLane 68 rfl) rfl (Go.pick [5, 6, 7, 8, 9, 1, 0] rfl (k4 h1 h2)))))
  · refine go_icmp_geT (tgt := 146) (eD DX6_buildLane 16 rfl) rfl (by omega) (by omega) (Int.not_lt.mp h1) ?_
    rw [(k5 h1).1, (k5 h1).2]
    exact go_vret (eD DX6_buildLane 69 rfl) rfl
set_option maxRecDepth 20000 in
theorem tX6_buildLane2_0 {r : Option eV} {w9 : eW} (w : eW) (lane : Int) (hB : HB w) (k1 : Go mX6_buildLane 29 [(0, eR 13), (1, (0, 2)), (2, (0, lane)), (3, (0, 1)), (4, (0, w 2 0)), (5, (0, 0)), (6, (0, 0))] [] w r w9) : Go mX6_buildLane 0 [(0, eR 13), (1, (0, 2)), (2, (0, lane)), (3, (0, 1))] [] w r w9 := by
  obtain ⟨⟨b1, b2, b3, b4, b5, b6⟩, b7, b8, b9⟩ := id hB
  refine go_iload_n (eD DX6_buildLane 0 rfl) rfl rfl (go_if_eqF (tgt := 14) (eD DX6_buildLane 1 rfl) rfl (by decide) (show ¬ ((1 : Int) = 0) from by decide) (?_))
  exact go_aload_n (eD DX6_buildLane 2 rfl) rfl rfl (go_getR (t := 2) (eD DX6_buildLane 3 rfl) fX6_26 (by decide) rfl ⟨rfl, rfl⟩ (go_getI (kz := 0) (eD DX6_buildLane 4 rfl) fX6_41 (by decide) rfl rfl rfl (go_goto (tgt := 21) (eD DX6_buildLane 5 rfl) rfl (go_istore (eD DX6_buildLane 9 rfl) (by decide) (go_iconst (eD DX6_buildLane 10 rfl) (go_istore (eD DX6_buildLane 11 rfl) (by decide) (go_iconst (eD DX6_buildLane 12 rfl) (go_istore (eD DX6_buildLane 13 rfl) (by decide) (Go.pick [3, 4, 5, 6, 2, 1, 0] rfl (k1))))))))))
set_option maxRecDepth 20000 in
theorem tX6_buildLane2_29 {r : Option eV} {w9 : eW} (w : eW) (lane steps within step : Int) (hB : HB w) (hc : 0 ≤ w 13 3 ∧ w 13 3 ≤ 280) (hc2 : within = 0 → step < steps → w 13 3 < 280) (hn : steps = (w 2 0)) (hl : 0 ≤ lane ∧ lane < (w 2 1)) (hs : 0 ≤ step ∧ step ≤ steps) (hw : within = 0 ∨ (within = 1 ∧ 1 ≤ w 13 3)) (k1 : step < steps → insC w step lane → insC w step (lane + 1) → Go mX6_buildLane 29 [(0, eR 13), (1, (0, 2)), (2, (0, lane)), (3, (0, 1)), (4, (0, steps)), (5, (0, 0)), (6, (0, step + 1))] [] w r w9) (k2 : step < steps → insC w step lane → ¬ (insC w step (lane + 1)) → within = 0 → Go mX6_buildLane 29 [(0, eR 13), (1, (0, 2)), (2, (0, lane)), (3, (0, 1)), (4, (0, steps)), (5, (0, 1)), (6, (0, step + 1))] [] (wX6_lengthen (wX6_begin w 2 step lane) 2 step lane) r w9) (k3 : step < steps → insC w step lane → ¬ (insC w step (lane + 1)) → ¬ (within = 0) → Go mX6_buildLane 29 [(0, eR 13), (1, (0, 2)), (2, (0, lane)), (3, (0, 1)), (4, (0, steps)), (5, (0, 1)), (6, (0, step + 1))] [] (wX6_lengthen w 2 step lane) r w9) (k4 : step < steps → ¬ (insC w step lane) → Go mX6_buildLane 29 [(0, eR 13), (1, (0, 2)), (2, (0, lane)), (3, (0, 1)), (4, (0, steps)), (5, (0, 0)), (6, (0, step + 1))] [] w r w9) (k5 : ¬ (step < steps) → r = none ∧ w9 = w) : Go mX6_buildLane 29 [(0, eR 13), (1, (0, 2)), (2, (0, lane)), (3, (0, 1)), (4, (0, steps)), (5, (0, within)), (6, (0, step))] [] w r w9 := by
  obtain ⟨⟨b1, b2, b3, b4, b5, b6⟩, b7, b8, b9⟩ := id hB
  have hb3 : wX6_begin w 2 step lane 13 3 = w 13 3 + 1 := rfl
  refine go_iload (eD DX6_buildLane 14 rfl) rfl (go_iload (eD DX6_buildLane 15 rfl) rfl (?_))
  by_cases h1 : step < steps
  · refine go_icmp_geF (tgt := 146) (eD DX6_buildLane 16 rfl) rfl (by omega) (by omega) (Int.not_le.mpr h1) ?_
    refine go_iload_n (eD DX6_buildLane 17 rfl) rfl rfl (go_if_eqF (tgt := 45) (eD DX6_buildLane 18 rfl) rfl (by decide) (show ¬ ((1 : Int) = 0) from by decide) (?_))
    refine go_iload (eD DX6_buildLane 19 rfl) rfl (go_goto (tgt := 46) (eD DX6_buildLane 20 rfl) rfl (go_istore (eD DX6_buildLane 22 rfl) (by decide) (go_iload_n (eD DX6_buildLane 23 rfl) rfl rfl (go_if_eqF (tgt := 56) (eD DX6_buildLane 24 rfl) rfl (by decide) (show ¬ ((1 : Int) = 0) from by decide) (?_)))))
    refine go_iload_n (eD DX6_buildLane 25 rfl) rfl rfl (go_goto (tgt := 58) (eD DX6_buildLane 26 rfl) rfl (go_istore (eD DX6_buildLane 28 rfl) (by decide) (go_aload_n (eD DX6_buildLane 29 rfl) rfl rfl (go_getR (t := 2) (eD DX6_buildLane 30 rfl) fX6_26 (by decide) rfl ⟨rfl, rfl⟩ (go_iload (eD DX6_buildLane 31 rfl) rfl (go_iload (eD DX6_buildLane 32 rfl) rfl (go_callV (ci := 0) [(0, step), (0, lane)] (eD DX6_buildLane 33 rfl) ⟨eMem 3 5 rfl rfl, sX0_isInside⟩ ⟨Nat.le_of_ble_eq_true rfl, Nat.le_of_ble_eq_true rfl⟩ (by decide) ⟨rfl, by decide, _, rfl, rfl⟩ rfl rfl (Nat.le_of_ble_eq_true rfl) (y_b_X0_isInside w step lane (by omega) (by omega) (by assumption)) (?_))))))))
    by_cases h2 : insC w step lane
    · refine go_if_eqF (tgt := 100) (eD DX6_buildLane 34 rfl) rfl (eI_pI _) (pI1 h2) ?_
      refine go_aload_n (eD DX6_buildLane 35 rfl) rfl rfl (go_getR (t := 2) (eD DX6_buildLane 36 rfl) fX6_26 (by decide) rfl ⟨rfl, rfl⟩ (go_iload (eD DX6_buildLane 37 rfl) rfl (go_iload_n (eD DX6_buildLane 38 rfl) rfl rfl (?_))))
      refine go_callS [(0, step), (0, 2)] (eD DX6_buildLane 39 rfl) ⟨eMem 3 13 rfl rfl, sX6_besideX⟩ ⟨Nat.le_of_ble_eq_true rfl, Nat.le_of_ble_eq_true rfl⟩ rfl rfl (Nat.le_of_ble_eq_true rfl) (Cal.as (zX6_besideX w step 2 (by decide) ) (r2 := some (0, step)) (w2 := w) (by (try simp only [rX6_besideX, if_pos h1, if_pos h2]) <;> (try rfl)) rfl) (?_)
      refine go_iload (eD DX6_buildLane 40 rfl) rfl (go_iload_n (eD DX6_buildLane 41 rfl) rfl rfl (?_))
      refine go_callS [(0, lane), (0, 2)] (eD DX6_buildLane 42 rfl) ⟨eMem 3 16 rfl rfl, sX6_besideY⟩ ⟨Nat.le_of_ble_eq_true rfl, Nat.le_of_ble_eq_true rfl⟩ rfl rfl (Nat.le_of_ble_eq_true rfl) (Cal.as (zX6_besideY w lane 2 (by decide) ) (r2 := some (0, lane + 1)) (w2 := w) (by (try simp only [rX6_besideY, if_pos h1, if_pos h2]) <;> (try rfl)) rfl) (?_)
      refine go_callV (ci := 0) [(0, step), (0, lane + 1)] (eD DX6_buildLane 43 rfl) ⟨eMem 3 5 rfl rfl, sX0_isInside⟩ ⟨Nat.le_of_ble_eq_true rfl, Nat.le_of_ble_eq_true rfl⟩ (by decide) ⟨rfl, by decide, _, rfl, rfl⟩ rfl rfl (Nat.le_of_ble_eq_true rfl) (y_b_X0_isInside w step (lane + 1) (by omega) (by omega) (by assumption)) (?_)
      by_cases h3 : insC w step (lane + 1)
      · refine go_if_neT (tgt := 100) (eD DX6_buildLane 44 rfl) rfl (eI_pI _) (pI1 h3) ?_
        refine go_iconst (eD DX6_buildLane 47 rfl) (go_istore (eD DX6_buildLane 48 rfl) (by decide) (go_iload (eD DX6_buildLane 49 rfl) rfl (go_if_eqT (tgt := 122) (eD DX6_buildLane 50 rfl) rfl (by decide) (show (0 : Int) = 0 from by decide) (?_))))
        refine go_iload (eD DX6_buildLane 58 rfl) rfl (go_if_eqT (tgt := 136) (eD DX6_buildLane 59 rfl) rfl (by decide) (show (0 : Int) = 0 from by decide) (?_))
        exact go_iload (eD DX6_buildLane 65 rfl) rfl (go_istore (eD DX6_buildLane 66 rfl) (by decide) (go_iinc (eD DX6_buildLane 67 rfl) rfl (by decide) (go_goto (tgt := 29) (eD DX6_buildLane 68 rfl) rfl (Go.pick [5, 6, 7, 8, 9, 1, 0] rfl (k1 h1 h2 h3)))))
      · refine go_if_neF (tgt := 100) (eD DX6_buildLane 44 rfl) rfl (eI_pI _) (not_not_intro (pI0 h3)) ?_
        refine go_iconst (eD DX6_buildLane 45 rfl) (go_goto (tgt := 101) (eD DX6_buildLane 46 rfl) rfl (go_istore (eD DX6_buildLane 48 rfl) (by decide) (go_iload (eD DX6_buildLane 49 rfl) rfl (go_if_eqF (tgt := 122) (eD DX6_buildLane 50 rfl) rfl (by decide) (show ¬ ((1 : Int) = 0) from by decide) (?_)))))
        refine go_iload (eD DX6_buildLane 51 rfl) rfl (?_)
        by_cases h4 : within = 0
        · refine go_if_neF (tgt := 122) (eD DX6_buildLane 52 rfl) rfl (by omega) (not_not_intro h4) ?_
          refine go_aload_n (eD DX6_buildLane 53 rfl) rfl rfl (go_iload_n (eD DX6_buildLane 54 rfl) rfl rfl (go_iload (eD DX6_buildLane 55 rfl) rfl (go_iload (eD DX6_buildLane 56 rfl) rfl (go_callV (ci := 6) [(0, 2), (0, step), (0, lane)] (eD DX6_buildLane 57 rfl) ⟨eMem 3 19 rfl rfl, sX6_begin⟩ ⟨Nat.le_of_ble_eq_true rfl, Nat.le_of_ble_eq_true rfl⟩ (by decide) ⟨rfl, by decide, _, rfl, rfl⟩ rfl rfl (Nat.le_of_ble_eq_true rfl) (zX6_begin w 2 step lane  (by first | assumption | omega)) (go_iload (eD DX6_buildLane 58 rfl) rfl (go_if_eqF (tgt := 136) (eD DX6_buildLane 59 rfl) rfl (by decide) (show ¬ ((1 : Int) = 0) from by decide) (?_)))))))
          exact go_aload_n (eD DX6_buildLane 60 rfl) rfl rfl (go_iload_n (eD DX6_buildLane 61 rfl) rfl rfl (go_iload (eD DX6_buildLane 62 rfl) rfl (go_iload (eD DX6_buildLane 63 rfl) rfl (go_callV (ci := 6) [(0, 2), (0, step), (0, lane)] (eD DX6_buildLane 64 rfl) ⟨eMem 3 23 rfl rfl, sX6_lengthen⟩ ⟨Nat.le_of_ble_eq_true rfl, Nat.le_of_ble_eq_true rfl⟩ (by decide) ⟨rfl, by decide, _, rfl, rfl⟩ rfl rfl (Nat.le_of_ble_eq_true rfl) (zX6_lengthen (wX6_begin w 2 step lane) 2 step lane (by decide) (by omega) (by omega) (by first | assumption | omega) (by first | assumption | omega)) (go_iload (eD DX6_buildLane 65 rfl) rfl (go_istore (eD DX6_buildLane 66 rfl) (by decide) (go_iinc (eD DX6_buildLane 67 rfl) rfl (by decide) (go_goto (tgt := 29) (eD DX6_buildLane 68 rfl) rfl (Go.pick [5, 6, 7, 8, 9, 1, 0] rfl (k2 h1 h2 h3 h4))))))))))
        · refine go_if_neT (tgt := 122) (eD DX6_buildLane 52 rfl) rfl (by omega) h4 ?_
          refine go_iload (eD DX6_buildLane 58 rfl) rfl (go_if_eqF (tgt := 136) (eD DX6_buildLane 59 rfl) rfl (by decide) (show ¬ ((1 : Int) = 0) from by decide) (?_))
          exact go_aload_n (eD DX6_buildLane 60 rfl) rfl rfl (go_iload_n (eD DX6_buildLane 61 rfl) rfl rfl (go_iload (eD DX6_buildLane 62 rfl) rfl (go_iload (eD DX6_buildLane 63 rfl) rfl (go_callV (ci := 6) [(0, 2), (0, step), (0, lane)] (eD DX6_buildLane 64 rfl) ⟨eMem 3 23 rfl rfl, sX6_lengthen⟩ ⟨Nat.le_of_ble_eq_true rfl, Nat.le_of_ble_eq_true rfl⟩ (by decide) ⟨rfl, by decide, _, rfl, rfl⟩ rfl rfl (Nat.le_of_ble_eq_true rfl) (zX6_lengthen w 2 step lane (by decide) (by omega) (by omega) (by first | assumption | omega) (by first | assumption | omega)) (go_iload (eD DX6_buildLane 65 rfl) rfl (go_istore (eD DX6_buildLane 66 rfl) (by decide) (go_iinc (eD DX6_buildLane 67 rfl) rfl (by decide) (go_goto (tgt := 29) (eD DX6_buildLane 68 rfl) rfl (Go.pick [5, 6, 7, 8, 9, 1, 0] rfl (k3 h1 h2 h3 h4))))))))))
    · refine go_if_eqT (tgt := 100) (eD DX6_buildLane 34 rfl) rfl (eI_pI _) (pI0 h2) ?_
      refine go_iconst (eD DX6_buildLane 47 rfl) (go_istore (eD DX6_buildLane 48 rfl) (by decide) (go_iload (eD DX6_buildLane 49 rfl) rfl (go_if_eqT (tgt := 122) (eD DX6_buildLane 50 rfl) rfl (by decide) (show (0 : Int) = 0 from by decide) (?_))))
      refine go_iload (eD DX6_buildLane 58 rfl) rfl (go_if_eqT (tgt := 136) (eD DX6_buildLane 59 rfl) rfl (by decide) (show (0 : Int) = 0 from by decide) (?_))
      exact go_iload (eD DX6_buildLane 65 rfl) rfl (go_istore (eD DX6_buildLane 66 rfl) (by decide) (go_iinc (eD DX6_buildLane 67 rfl) rfl (by decide) (go_goto (tgt := 29) (eD DX6_buildLane 68 rfl) rfl (Go.pick [5, 6, 7, 8, 9, 1, 0] rfl (k4 h1 h2)))))
  · refine go_icmp_geT (tgt := 146) (eD DX6_buildLane 16 rfl) rfl (by omega) (by omega) (Int.not_lt.mp h1) ?_
    rw [(k5 h1).1, (k5 h1).2]
    exact go_vret (eD DX6_buildLane 69 rfl) rfl
set_option maxRecDepth 20000 in
theorem tX6_buildLane3_0 {r : Option eV} {w9 : eW} (w : eW) (lane : Int) (hB : HB w) (k1 : Go mX6_buildLane 29 [(0, eR 13), (1, (0, 3)), (2, (0, lane)), (3, (0, 0)), (4, (0, w 2 1)), (5, (0, 0)), (6, (0, 0))] [] w r w9) : Go mX6_buildLane 0 [(0, eR 13), (1, (0, 3)), (2, (0, lane)), (3, (0, 0))] [] w r w9 := by
  obtain ⟨⟨b1, b2, b3, b4, b5, b6⟩, b7, b8, b9⟩ := id hB
  refine go_iload_n (eD DX6_buildLane 0 rfl) rfl rfl (go_if_eqT (tgt := 14) (eD DX6_buildLane 1 rfl) rfl (by decide) (show (0 : Int) = 0 from by decide) (?_))
  exact go_aload_n (eD DX6_buildLane 6 rfl) rfl rfl (go_getR (t := 2) (eD DX6_buildLane 7 rfl) fX6_26 (by decide) rfl ⟨rfl, rfl⟩ (go_getI (kz := 1) (eD DX6_buildLane 8 rfl) fX6_36 (by decide) rfl rfl rfl (go_istore (eD DX6_buildLane 9 rfl) (by decide) (go_iconst (eD DX6_buildLane 10 rfl) (go_istore (eD DX6_buildLane 11 rfl) (by decide) (go_iconst (eD DX6_buildLane 12 rfl) (go_istore (eD DX6_buildLane 13 rfl) (by decide) (Go.pick [3, 4, 5, 6, 2, 1, 0] rfl (k1)))))))))
set_option maxRecDepth 20000 in
theorem tX6_buildLane3_29 {r : Option eV} {w9 : eW} (w : eW) (lane steps within step : Int) (hB : HB w) (hc : 0 ≤ w 13 3 ∧ w 13 3 ≤ 280) (hc2 : within = 0 → step < steps → w 13 3 < 280) (hn : steps = (w 2 1)) (hl : 0 ≤ lane ∧ lane < (w 2 0)) (hs : 0 ≤ step ∧ step ≤ steps) (hw : within = 0 ∨ (within = 1 ∧ 1 ≤ w 13 3)) (k1 : step < steps → insC w lane step → insC w (lane - 1) step → Go mX6_buildLane 29 [(0, eR 13), (1, (0, 3)), (2, (0, lane)), (3, (0, 0)), (4, (0, steps)), (5, (0, 0)), (6, (0, step + 1))] [] w r w9) (k2 : step < steps → insC w lane step → ¬ (insC w (lane - 1) step) → within = 0 → Go mX6_buildLane 29 [(0, eR 13), (1, (0, 3)), (2, (0, lane)), (3, (0, 0)), (4, (0, steps)), (5, (0, 1)), (6, (0, step + 1))] [] (wX6_lengthen (wX6_begin w 3 lane step) 3 lane step) r w9) (k3 : step < steps → insC w lane step → ¬ (insC w (lane - 1) step) → ¬ (within = 0) → Go mX6_buildLane 29 [(0, eR 13), (1, (0, 3)), (2, (0, lane)), (3, (0, 0)), (4, (0, steps)), (5, (0, 1)), (6, (0, step + 1))] [] (wX6_lengthen w 3 lane step) r w9) (k4 : step < steps → ¬ (insC w lane step) → Go mX6_buildLane 29 [(0, eR 13), (1, (0, 3)), (2, (0, lane)), (3, (0, 0)), (4, (0, steps)), (5, (0, 0)), (6, (0, step + 1))] [] w r w9) (k5 : ¬ (step < steps) → r = none ∧ w9 = w) : Go mX6_buildLane 29 [(0, eR 13), (1, (0, 3)), (2, (0, lane)), (3, (0, 0)), (4, (0, steps)), (5, (0, within)), (6, (0, step))] [] w r w9 := by
  obtain ⟨⟨b1, b2, b3, b4, b5, b6⟩, b7, b8, b9⟩ := id hB
  have hb3 : wX6_begin w 3 lane step 13 3 = w 13 3 + 1 := rfl
  refine go_iload (eD DX6_buildLane 14 rfl) rfl (go_iload (eD DX6_buildLane 15 rfl) rfl (?_))
  by_cases h1 : step < steps
  · refine go_icmp_geF (tgt := 146) (eD DX6_buildLane 16 rfl) rfl (by omega) (by omega) (Int.not_le.mpr h1) ?_
    refine go_iload_n (eD DX6_buildLane 17 rfl) rfl rfl (go_if_eqT (tgt := 45) (eD DX6_buildLane 18 rfl) rfl (by decide) (show (0 : Int) = 0 from by decide) (?_))
    refine go_iload_n (eD DX6_buildLane 21 rfl) rfl rfl (go_istore (eD DX6_buildLane 22 rfl) (by decide) (go_iload_n (eD DX6_buildLane 23 rfl) rfl rfl (go_if_eqT (tgt := 56) (eD DX6_buildLane 24 rfl) rfl (by decide) (show (0 : Int) = 0 from by decide) (?_))))
    refine go_iload (eD DX6_buildLane 27 rfl) rfl (go_istore (eD DX6_buildLane 28 rfl) (by decide) (go_aload_n (eD DX6_buildLane 29 rfl) rfl rfl (go_getR (t := 2) (eD DX6_buildLane 30 rfl) fX6_26 (by decide) rfl ⟨rfl, rfl⟩ (go_iload (eD DX6_buildLane 31 rfl) rfl (go_iload (eD DX6_buildLane 32 rfl) rfl (go_callV (ci := 0) [(0, lane), (0, step)] (eD DX6_buildLane 33 rfl) ⟨eMem 3 5 rfl rfl, sX0_isInside⟩ ⟨Nat.le_of_ble_eq_true rfl, Nat.le_of_ble_eq_true rfl⟩ (by decide) ⟨rfl, by decide, _, rfl, rfl⟩ rfl rfl (Nat.le_of_ble_eq_true rfl) (y_b_X0_isInside w lane step (by omega) (by omega) (by assumption)) (?_)))))))
    by_cases h2 : insC w lane step
    · refine go_if_eqF (tgt := 100) (eD DX6_buildLane 34 rfl) rfl (eI_pI _) (pI1 h2) ?_
      refine go_aload_n (eD DX6_buildLane 35 rfl) rfl rfl (go_getR (t := 2) (eD DX6_buildLane 36 rfl) fX6_26 (by decide) rfl ⟨rfl, rfl⟩ (go_iload (eD DX6_buildLane 37 rfl) rfl (go_iload_n (eD DX6_buildLane 38 rfl) rfl rfl (?_))))
      refine go_callS [(0, lane), (0, 3)] (eD DX6_buildLane 39 rfl) ⟨eMem 3 13 rfl rfl, sX6_besideX⟩ ⟨Nat.le_of_ble_eq_true rfl, Nat.le_of_ble_eq_true rfl⟩ rfl rfl (Nat.le_of_ble_eq_true rfl) (Cal.as (zX6_besideX w lane 3 (by decide) ) (r2 := some (0, lane - 1)) (w2 := w) (by (try simp only [rX6_besideX, if_pos h1, if_pos h2]) <;> (try rfl)) rfl) (?_)
      refine go_iload (eD DX6_buildLane 40 rfl) rfl (go_iload_n (eD DX6_buildLane 41 rfl) rfl rfl (?_))
      refine go_callS [(0, step), (0, 3)] (eD DX6_buildLane 42 rfl) ⟨eMem 3 16 rfl rfl, sX6_besideY⟩ ⟨Nat.le_of_ble_eq_true rfl, Nat.le_of_ble_eq_true rfl⟩ rfl rfl (Nat.le_of_ble_eq_true rfl) (Cal.as (zX6_besideY w step 3 (by decide) ) (r2 := some (0, step)) (w2 := w) (by (try simp only [rX6_besideY, if_pos h1, if_pos h2]) <;> (try rfl)) rfl) (?_)
      refine go_callV (ci := 0) [(0, lane - 1), (0, step)] (eD DX6_buildLane 43 rfl) ⟨eMem 3 5 rfl rfl, sX0_isInside⟩ ⟨Nat.le_of_ble_eq_true rfl, Nat.le_of_ble_eq_true rfl⟩ (by decide) ⟨rfl, by decide, _, rfl, rfl⟩ rfl rfl (Nat.le_of_ble_eq_true rfl) (y_b_X0_isInside w (lane - 1) step (by omega) (by omega) (by assumption)) (?_)
      by_cases h3 : insC w (lane - 1) step
      · refine go_if_neT (tgt := 100) (eD DX6_buildLane 44 rfl) rfl (eI_pI _) (pI1 h3) ?_
        refine go_iconst (eD DX6_buildLane 47 rfl) (go_istore (eD DX6_buildLane 48 rfl) (by decide) (go_iload (eD DX6_buildLane 49 rfl) rfl (go_if_eqT (tgt := 122) (eD DX6_buildLane 50 rfl) rfl (by decide) (show (0 : Int) = 0 from by decide) (?_))))
        refine go_iload (eD DX6_buildLane 58 rfl) rfl (go_if_eqT (tgt := 136) (eD DX6_buildLane 59 rfl) rfl (by decide) (show (0 : Int) = 0 from by decide) (?_))
        exact go_iload (eD DX6_buildLane 65 rfl) rfl (go_istore (eD DX6_buildLane 66 rfl) (by decide) (go_iinc (eD DX6_buildLane 67 rfl) rfl (by decide) (go_goto (tgt := 29) (eD DX6_buildLane 68 rfl) rfl (Go.pick [5, 6, 7, 8, 9, 1, 0] rfl (k1 h1 h2 h3)))))
      · refine go_if_neF (tgt := 100) (eD DX6_buildLane 44 rfl) rfl (eI_pI _) (not_not_intro (pI0 h3)) ?_
        refine go_iconst (eD DX6_buildLane 45 rfl) (go_goto (tgt := 101) (eD DX6_buildLane 46 rfl) rfl (go_istore (eD DX6_buildLane 48 rfl) (by decide) (go_iload (eD DX6_buildLane 49 rfl) rfl (go_if_eqF (tgt := 122) (eD DX6_buildLane 50 rfl) rfl (by decide) (show ¬ ((1 : Int) = 0) from by decide) (?_)))))
        refine go_iload (eD DX6_buildLane 51 rfl) rfl (?_)
        by_cases h4 : within = 0
        · refine go_if_neF (tgt := 122) (eD DX6_buildLane 52 rfl) rfl (by omega) (not_not_intro h4) ?_
          refine go_aload_n (eD DX6_buildLane 53 rfl) rfl rfl (go_iload_n (eD DX6_buildLane 54 rfl) rfl rfl (go_iload (eD DX6_buildLane 55 rfl) rfl (go_iload (eD DX6_buildLane 56 rfl) rfl (go_callV (ci := 6) [(0, 3), (0, lane), (0, step)] (eD DX6_buildLane 57 rfl) ⟨eMem 3 19 rfl rfl, sX6_begin⟩ ⟨Nat.le_of_ble_eq_true rfl, Nat.le_of_ble_eq_true rfl⟩ (by decide) ⟨rfl, by decide, _, rfl, rfl⟩ rfl rfl (Nat.le_of_ble_eq_true rfl) (zX6_begin w 3 lane step  (by first | assumption | omega)) (go_iload (eD DX6_buildLane 58 rfl) rfl (go_if_eqF (tgt := 136) (eD DX6_buildLane 59 rfl) rfl (by decide) (show ¬ ((1 : Int) = 0) from by decide) (?_)))))))
          exact go_aload_n (eD DX6_buildLane 60 rfl) rfl rfl (go_iload_n (eD DX6_buildLane 61 rfl) rfl rfl (go_iload (eD DX6_buildLane 62 rfl) rfl (go_iload (eD DX6_buildLane 63 rfl) rfl (go_callV (ci := 6) [(0, 3), (0, lane), (0, step)] (eD DX6_buildLane 64 rfl) ⟨eMem 3 23 rfl rfl, sX6_lengthen⟩ ⟨Nat.le_of_ble_eq_true rfl, Nat.le_of_ble_eq_true rfl⟩ (by decide) ⟨rfl, by decide, _, rfl, rfl⟩ rfl rfl (Nat.le_of_ble_eq_true rfl) (zX6_lengthen (wX6_begin w 3 lane step) 3 lane step (by decide) (by omega) (by omega) (by first | assumption | omega) (by first | assumption | omega)) (go_iload (eD DX6_buildLane 65 rfl) rfl (go_istore (eD DX6_buildLane 66 rfl) (by decide) (go_iinc (eD DX6_buildLane 67 rfl) rfl (by decide) (go_goto (tgt := 29) (eD DX6_buildLane 68 rfl) rfl (Go.pick [5, 6, 7, 8, 9, 1, 0] rfl (k2 h1 h2 h3 h4))))))))))
        · refine go_if_neT (tgt := 122) (eD DX6_buildLane 52 rfl) rfl (by omega) h4 ?_
          refine go_iload (eD DX6_buildLane 58 rfl) rfl (go_if_eqF (tgt := 136) (eD DX6_buildLane 59 rfl) rfl (by decide) (show ¬ ((1 : Int) = 0) from by decide) (?_))
          exact go_aload_n (eD DX6_buildLane 60 rfl) rfl rfl (go_iload_n (eD DX6_buildLane 61 rfl) rfl rfl (go_iload (eD DX6_buildLane 62 rfl) rfl (go_iload (eD DX6_buildLane 63 rfl) rfl (go_callV (ci := 6) [(0, 3), (0, lane), (0, step)] (eD DX6_buildLane 64 rfl) ⟨eMem 3 23 rfl rfl, sX6_lengthen⟩ ⟨Nat.le_of_ble_eq_true rfl, Nat.le_of_ble_eq_true rfl⟩ (by decide) ⟨rfl, by decide, _, rfl, rfl⟩ rfl rfl (Nat.le_of_ble_eq_true rfl) (zX6_lengthen w 3 lane step (by decide) (by omega) (by omega) (by first | assumption | omega) (by first | assumption | omega)) (go_iload (eD DX6_buildLane 65 rfl) rfl (go_istore (eD DX6_buildLane 66 rfl) (by decide) (go_iinc (eD DX6_buildLane 67 rfl) rfl (by decide) (go_goto (tgt := 29) (eD DX6_buildLane 68 rfl) rfl (Go.pick [5, 6, 7, 8, 9, 1, 0] rfl (k3 h1 h2 h3 h4))))))))))
    · refine go_if_eqT (tgt := 100) (eD DX6_buildLane 34 rfl) rfl (eI_pI _) (pI0 h2) ?_
      refine go_iconst (eD DX6_buildLane 47 rfl) (go_istore (eD DX6_buildLane 48 rfl) (by decide) (go_iload (eD DX6_buildLane 49 rfl) rfl (go_if_eqT (tgt := 122) (eD DX6_buildLane 50 rfl) rfl (by decide) (show (0 : Int) = 0 from by decide) (?_))))
      refine go_iload (eD DX6_buildLane 58 rfl) rfl (go_if_eqT (tgt := 136) (eD DX6_buildLane 59 rfl) rfl (by decide) (show (0 : Int) = 0 from by decide) (?_))
      exact go_iload (eD DX6_buildLane 65 rfl) rfl (go_istore (eD DX6_buildLane 66 rfl) (by decide) (go_iinc (eD DX6_buildLane 67 rfl) rfl (by decide) (go_goto (tgt := 29) (eD DX6_buildLane 68 rfl) rfl (Go.pick [5, 6, 7, 8, 9, 1, 0] rfl (k4 h1 h2)))))
  · refine go_icmp_geT (tgt := 146) (eD DX6_buildLane 16 rfl) rfl (by omega) (by omega) (Int.not_lt.mp h1) ?_
    rw [(k5 h1).1, (k5 h1).2]
    exact go_vret (eD DX6_buildLane 69 rfl) rfl
