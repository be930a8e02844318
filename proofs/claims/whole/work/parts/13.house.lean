set_option maxRecDepth 20000 in
theorem tJ6_bitCount_0f7a4_0 {r : Option eV} {w9 : eW} (w : eW) (i : Int) (hi : 0 ≤ i ∧ i < 2147483648) (k1 : Go mJ6_bitCount_0f7a4 10 [(0, (0, i - (eAnd (i / 2 ^ (1 : Int).toNat) 1431655765)))] [] w r w9) : Go mJ6_bitCount_0f7a4 0 [(0, (0, i))] [] w r w9 := by
  exact go_iload_n (eD DJ6_bitCount_0f7a4 0 rfl) rfl rfl (go_iload_n (eD DJ6_bitCount_0f7a4 1 rfl) rfl rfl (go_iconst (eD DJ6_bitCount_0f7a4 2 rfl) (go_iushr (eD DJ6_bitCount_0f7a4 3 rfl) (by omega) (by decide) (go_ldcw (n := 1431655765) (eD DJ6_bitCount_0f7a4 4 rfl) (eMem 2 197 rfl rfl) (go_iand (eD DJ6_bitCount_0f7a4 5 rfl) (go_isub (eD DJ6_bitCount_0f7a4 6 rfl) (go_istore_n (eD DJ6_bitCount_0f7a4 7 rfl) rfl (by decide) (Go.pick [0] rfl (k1)))))))))
set_option maxRecDepth 20000 in
theorem tJ6_bitCount_0f7a4_10 {r : Option eV} {w9 : eW} (w : eW) (i : Int) (hi : 0 ≤ i ∧ i < 2147483648) (k1 : Go mJ6_bitCount_0f7a4 24 [(0, (0, (eAnd i 858993459) + (eAnd (i / 2 ^ (2 : Int).toNat) 858993459)))] [] w r w9) : Go mJ6_bitCount_0f7a4 10 [(0, (0, i))] [] w r w9 := by
  exact go_iload_n (eD DJ6_bitCount_0f7a4 8 rfl) rfl rfl (go_ldcw (n := 858993459) (eD DJ6_bitCount_0f7a4 9 rfl) (eMem 2 198 rfl rfl) (go_iand (eD DJ6_bitCount_0f7a4 10 rfl) (go_iload_n (eD DJ6_bitCount_0f7a4 11 rfl) rfl rfl (go_iconst (eD DJ6_bitCount_0f7a4 12 rfl) (go_iushr (eD DJ6_bitCount_0f7a4 13 rfl) (by omega) (by decide) (go_ldcw (n := 858993459) (eD DJ6_bitCount_0f7a4 14 rfl) (eMem 2 198 rfl rfl) (go_iand (eD DJ6_bitCount_0f7a4 15 rfl) (go_iadd (eD DJ6_bitCount_0f7a4 16 rfl) (go_istore_n (eD DJ6_bitCount_0f7a4 17 rfl) rfl (by decide) (Go.pick [0] rfl (k1)))))))))))
set_option maxRecDepth 20000 in
theorem tJ6_bitCount_0f7a4_24 {r : Option eV} {w9 : eW} (w : eW) (i : Int) (hi : 0 ≤ i ∧ i < 2147483648) (k1 : Go mJ6_bitCount_0f7a4 34 [(0, (0, eAnd (i + (i / 2 ^ (4 : Int).toNat)) 252645135))] [] w r w9) : Go mJ6_bitCount_0f7a4 24 [(0, (0, i))] [] w r w9 := by
  exact go_iload_n (eD DJ6_bitCount_0f7a4 18 rfl) rfl rfl (go_iload_n (eD DJ6_bitCount_0f7a4 19 rfl) rfl rfl (go_iconst (eD DJ6_bitCount_0f7a4 20 rfl) (go_iushr (eD DJ6_bitCount_0f7a4 21 rfl) (by omega) (by decide) (go_iadd (eD DJ6_bitCount_0f7a4 22 rfl) (go_ldcw (n := 252645135) (eD DJ6_bitCount_0f7a4 23 rfl) (eMem 2 199 rfl rfl) (go_iand (eD DJ6_bitCount_0f7a4 24 rfl) (go_istore_n (eD DJ6_bitCount_0f7a4 25 rfl) rfl (by decide) (Go.pick [0] rfl (k1)))))))))
set_option maxRecDepth 20000 in
theorem tJ6_bitCount_0f7a4_34 {r : Option eV} {w9 : eW} (w : eW) (i : Int) (hi : 0 ≤ i ∧ i < 2147483648) (k1 : Go mJ6_bitCount_0f7a4 41 [(0, (0, i + (i / 2 ^ (8 : Int).toNat)))] [] w r w9) : Go mJ6_bitCount_0f7a4 34 [(0, (0, i))] [] w r w9 := by
  exact go_iload_n (eD DJ6_bitCount_0f7a4 26 rfl) rfl rfl (go_iload_n (eD DJ6_bitCount_0f7a4 27 rfl) rfl rfl (go_bipush (eD DJ6_bitCount_0f7a4 28 rfl) (by decide) (go_iushr (eD DJ6_bitCount_0f7a4 29 rfl) (by omega) (by decide) (go_iadd (eD DJ6_bitCount_0f7a4 30 rfl) (go_istore_n (eD DJ6_bitCount_0f7a4 31 rfl) rfl (by decide) (Go.pick [0] rfl (k1)))))))
set_option maxRecDepth 20000 in
theorem tJ6_bitCount_0f7a4_41 {r : Option eV} {w9 : eW} (w : eW) (i : Int) (hi : 0 ≤ i ∧ i < 2147483648) (k1 : Go mJ6_bitCount_0f7a4 48 [(0, (0, i + (i / 2 ^ (16 : Int).toNat)))] [] w r w9) : Go mJ6_bitCount_0f7a4 41 [(0, (0, i))] [] w r w9 := by
  exact go_iload_n (eD DJ6_bitCount_0f7a4 32 rfl) rfl rfl (go_iload_n (eD DJ6_bitCount_0f7a4 33 rfl) rfl rfl (go_bipush (eD DJ6_bitCount_0f7a4 34 rfl) (by decide) (go_iushr (eD DJ6_bitCount_0f7a4 35 rfl) (by omega) (by decide) (go_iadd (eD DJ6_bitCount_0f7a4 36 rfl) (go_istore_n (eD DJ6_bitCount_0f7a4 37 rfl) rfl (by decide) (Go.pick [0] rfl (k1)))))))
set_option maxRecDepth 20000 in
theorem tJ6_bitCount_0f7a4_48 {r : Option eV} {w9 : eW} (w : eW) (i : Int) (hi : 0 ≤ i ∧ i < 2147483648) (k1 : r = some (0, eAnd i 63) ∧ w9 = w) : Go mJ6_bitCount_0f7a4 48 [(0, (0, i))] [] w r w9 := by
  obtain ⟨rfl, rfl⟩ := k1
  exact go_iload_n (eD DJ6_bitCount_0f7a4 38 rfl) rfl rfl (go_bipush (eD DJ6_bitCount_0f7a4 39 rfl) (by decide) (go_iand (eD DJ6_bitCount_0f7a4 40 rfl) (go_iret (eD DJ6_bitCount_0f7a4 41 rfl) rfl)))
theorem e_mask {i : Int} (hi : 0 ≤ i ∧ i < 2147483648) (m : Nat) (hm : m < 2147483648) (c : Int) (hc : c = (m : Int)) : eAnd i c = ((i.toNat &&& m : Nat) : Int) := by
  subst hc
  rw [eAnd_nat hi (by omega)]
  rfl
theorem e_divN (n k : Nat) : ((n : Int) / 2 ^ k) = ((n / 2 ^ k : Nat) : Int) := by rw [Int.natCast_ediv, Int.natCast_pow]; rfl
theorem y_bitCount (w : eW) (i : Int) (hi : 0 ≤ i ∧ i < 16384) : Cal mJ6_bitCount_0f7a4 [(0, i)] w (some (0, popI i)) w := by
  obtain ⟨n, rfl⟩ := Int.eq_ofNat_of_zero_le hi.1
  have hn : n < 16384 := by omega
  have hfin : bcN n = popN n := by
    have := bc_pop ⟨n / 128, by omega⟩ ⟨n % 128, by omega⟩
    simp only [Nat.div_add_mod] at this
    exact this
  rw [popI_nat, ← hfin]
  refine Cal.of (by decide +kernel) (Nat.le_of_ble_eq_true rfl) ?_
  refine tJ6_bitCount_0f7a4_0 w _ (by omega) ?_
  have l1 : (n / 2 &&& 1431655765) ≤ n / 2 := Nat.and_le_left
  rw [show ((n : Int) - eAnd ((n : Int) / 2 ^ (1 : Int).toNat) 1431655765) = ((n - (n / 2 &&& 1431655765) : Nat) : Int) by
    rw [e_divN, e_mask (i := ((n / 2 ^ (1 : Int).toNat : Nat) : Int)) (by have : (1 : Int).toNat = 1 := rfl; rw [this]; omega) 1431655765 (by decide) 1431655765 rfl]
    show (n : Int) - ((n / 2 &&& 1431655765 : Nat) : Int) = _
    omega]
  generalize ha : n - (n / 2 &&& 1431655765) = a
  have hab : a ≤ 16384 := by omega
  refine tJ6_bitCount_0f7a4_10 w _ (by omega) ?_
  have l2 : (a &&& 858993459) ≤ a := Nat.and_le_left
  have l3 : (a / 4 &&& 858993459) ≤ a / 4 := Nat.and_le_left
  rw [show (eAnd (a : Int) 858993459 + eAnd ((a : Int) / 2 ^ (2 : Int).toNat) 858993459) = (((a &&& 858993459) + (a / 4 &&& 858993459) : Nat) : Int) by
    rw [e_divN, e_mask (i := (a : Int)) (by omega) 858993459 (by decide) 858993459 rfl, e_mask (i := ((a / 2 ^ (2 : Int).toNat : Nat) : Int)) (by have : (2 : Int).toNat = 2 := rfl; rw [this]; omega) 858993459 (by decide) 858993459 rfl]
    rfl]
  generalize hb : (a &&& 858993459) + (a / 4 &&& 858993459) = b
  have hbb : b ≤ 32768 := by omega
  refine tJ6_bitCount_0f7a4_24 w _ (by omega) ?_
  have l4 : ((b + b / 16) &&& 252645135) ≤ b + b / 16 := Nat.and_le_left
  rw [show eAnd ((b : Int) + (b : Int) / 2 ^ (4 : Int).toNat) 252645135 = (((b + b / 16) &&& 252645135 : Nat) : Int) by
    rw [e_divN, show ((b : Int) + ((b / 2 ^ (4 : Int).toNat : Nat) : Int)) = ((b + b / 16 : Nat) : Int) by rfl, e_mask (by omega) 252645135 (by decide) 252645135 rfl]
    rfl]
  generalize hc : (b + b / 16) &&& 252645135 = c
  have hcb : c ≤ 65536 := by omega
  refine tJ6_bitCount_0f7a4_34 w _ (by omega) ?_
  rw [show ((c : Int) + (c : Int) / 2 ^ (8 : Int).toNat) = ((c + c / 256 : Nat) : Int) by rw [e_divN]; rfl]
  generalize hd : c + c / 256 = d
  have hdb : d ≤ 131072 := by omega
  refine tJ6_bitCount_0f7a4_41 w _ (by omega) ?_
  rw [show ((d : Int) + (d : Int) / 2 ^ (16 : Int).toNat) = ((d + d / 65536 : Nat) : Int) by rw [e_divN]; rfl]
  generalize he : d + d / 65536 = e
  have heb : e ≤ 262144 := by omega
  refine tJ6_bitCount_0f7a4_48 w _ (by omega) ⟨?_, rfl⟩
  rw [e_mask (by omega) 63 (by decide) 63 rfl]
  congr 2
  show ((bcN n : Nat) : Int) = _
  congr 1
  unfold bcN
  simp only [ha, hb, hc, hd, he]
  rfl
theorem popI_bound (n : Int) : 0 ≤ popI n ∧ popI n ≤ 14 := by
  have := sumI_bound (f := fun x => n / 2 ^ x.toNat % 2) (a := 0) (b := 14) (lo := 0) (hi := 1) (by decide) (fun i _ _ => by omega)
  unfold popI
  omega
set_option maxRecDepth 20000 in
theorem tX0_countInside_0 {r : Option eV} {w9 : eW} (w : eW) (k1 : Go mX0_countInside 4 [(0, eR 2), (1, (0, 0)), (2, (0, 0))] [] w r w9) : Go mX0_countInside 0 [(0, eR 2)] [] w r w9 := by
  exact go_iconst (eD DX0_countInside 0 rfl) (go_istore_n (eD DX0_countInside 1 rfl) rfl (by decide) (go_iconst (eD DX0_countInside 2 rfl) (go_istore_n (eD DX0_countInside 3 rfl) rfl (by decide) (Go.pick [2, 1, 0] rfl (k1)))))
set_option maxRecDepth 20000 in
theorem tX0_countInside_4 {r : Option eV} {w9 : eW} (w : eW) (n y : Int) (hB : HB w) (hy : 0 ≤ y ∧ y ≤ 10) (k1 : y < (w 2 1) → y < 0 → Go mX0_countInside 4 [(0, eR 2), (1, (0, n + (popI 0))), (2, (0, y + 1))] [] w r w9) (k2 : y < (w 2 1) → ¬ (y < 0) → y < 10 → Go mX0_countInside 4 [(0, eR 2), (1, (0, n + (popI (w 3 y)))), (2, (0, y + 1))] [] w r w9) (k3 : y < (w 2 1) → ¬ (y < 0) → ¬ (y < 10) → Go mX0_countInside 4 [(0, eR 2), (1, (0, n + (popI 0))), (2, (0, y + 1))] [] w r w9) (k4 : ¬ (y < (w 2 1)) → r = some (0, n) ∧ w9 = w) : Go mX0_countInside 4 [(0, eR 2), (1, (0, n)), (2, (0, y))] [] w r w9 := by
  obtain ⟨⟨b1, b2, b3, b4, b5, b6⟩, b7, b8, b9⟩ := id hB
  have b10 := b7 y
  refine go_iload_n (eD DX0_countInside 4 rfl) rfl rfl (go_aload_n (eD DX0_countInside 5 rfl) rfl rfl (go_getI (kz := 1) (eD DX0_countInside 6 rfl) fX0_15 (by decide) rfl rfl rfl (?_)))
  by_cases h1 : y < (w 2 1)
  · refine go_icmp_geF (tgt := 29) (eD DX0_countInside 7 rfl) rfl (by omega) (show eI (w 2 1) from by omega) (Int.not_le.mpr h1) ?_
    refine go_iload_n (eD DX0_countInside 8 rfl) rfl rfl (go_aload_n (eD DX0_countInside 9 rfl) rfl rfl (go_iload_n (eD DX0_countInside 10 rfl) rfl rfl (?_)))
    by_cases h2 : y < 0
    · refine go_callV (ci := 0) [(0, y)] (eD DX0_countInside 11 rfl) ⟨eMem 2 190 rfl rfl, sX0_lineAt⟩ ⟨Nat.le_of_ble_eq_true rfl, Nat.le_of_ble_eq_true rfl⟩ (by decide) ⟨rfl, by decide, _, rfl, rfl⟩ rfl rfl (Nat.le_of_ble_eq_true rfl) (Cal.as (zX0_lineAt w y (by omega) (by assumption)) (r2 := some (0, 0)) (w2 := w) (by simp only [rX0_lineAt, if_pos h1, if_pos h2]) rfl) (?_)
      exact go_callS [(0, 0)] (eD DX0_countInside 12 rfl) ⟨eMem 2 194 rfl rfl, sJ6_bitCount_0f7a4⟩ ⟨Nat.le_of_ble_eq_true rfl, Nat.le_of_ble_eq_true rfl⟩ rfl rfl (Nat.le_of_ble_eq_true rfl) (y_bitCount w 0 (show (0 : Int) ≤ 0 ∧ (0 : Int) < 16384 from by decide)) (go_iadd (eD DX0_countInside 13 rfl) (go_istore_n (eD DX0_countInside 14 rfl) rfl (by decide) (go_iinc (eD DX0_countInside 15 rfl) rfl (by decide) (go_goto (tgt := 4) (eD DX0_countInside 16 rfl) rfl (Go.pick [2, 1, 0] rfl (k1 h1 h2))))))
    · by_cases h3 : y < 10
      · refine go_callV (ci := 0) [(0, y)] (eD DX0_countInside 11 rfl) ⟨eMem 2 190 rfl rfl, sX0_lineAt⟩ ⟨Nat.le_of_ble_eq_true rfl, Nat.le_of_ble_eq_true rfl⟩ (by decide) ⟨rfl, by decide, _, rfl, rfl⟩ rfl rfl (Nat.le_of_ble_eq_true rfl) (Cal.as (zX0_lineAt w y (by omega) (by assumption)) (r2 := some (0, w 3 y)) (w2 := w) (by simp only [rX0_lineAt, if_pos h1, if_neg h2, if_pos h3]) rfl) (?_)
        exact go_callS [(0, w 3 y)] (eD DX0_countInside 12 rfl) ⟨eMem 2 194 rfl rfl, sJ6_bitCount_0f7a4⟩ ⟨Nat.le_of_ble_eq_true rfl, Nat.le_of_ble_eq_true rfl⟩ rfl rfl (Nat.le_of_ble_eq_true rfl) (y_bitCount w (w 3 y) (show 0 ≤ (w 3 y) ∧ (w 3 y) < 16384 from by omega)) (go_iadd (eD DX0_countInside 13 rfl) (go_istore_n (eD DX0_countInside 14 rfl) rfl (by decide) (go_iinc (eD DX0_countInside 15 rfl) rfl (by decide) (go_goto (tgt := 4) (eD DX0_countInside 16 rfl) rfl (Go.pick [2, 1, 0] rfl (k2 h1 h2 h3))))))
      · refine go_callV (ci := 0) [(0, y)] (eD DX0_countInside 11 rfl) ⟨eMem 2 190 rfl rfl, sX0_lineAt⟩ ⟨Nat.le_of_ble_eq_true rfl, Nat.le_of_ble_eq_true rfl⟩ (by decide) ⟨rfl, by decide, _, rfl, rfl⟩ rfl rfl (Nat.le_of_ble_eq_true rfl) (Cal.as (zX0_lineAt w y (by omega) (by assumption)) (r2 := some (0, 0)) (w2 := w) (by simp only [rX0_lineAt, if_pos h1, if_neg h2, if_neg h3]) rfl) (?_)
        exact go_callS [(0, 0)] (eD DX0_countInside 12 rfl) ⟨eMem 2 194 rfl rfl, sJ6_bitCount_0f7a4⟩ ⟨Nat.le_of_ble_eq_true rfl, Nat.le_of_ble_eq_true rfl⟩ rfl rfl (Nat.le_of_ble_eq_true rfl) (y_bitCount w 0 (show (0 : Int) ≤ 0 ∧ (0 : Int) < 16384 from by decide)) (go_iadd (eD DX0_countInside 13 rfl) (go_istore_n (eD DX0_countInside 14 rfl) rfl (by decide) (go_iinc (eD DX0_countInside 15 rfl) rfl (by decide) (go_goto (tgt := 4) (eD DX0_countInside 16 rfl) rfl (Go.pick [2, 1, 0] rfl (k3 h1 h2 h3))))))
  · refine go_icmp_geT (tgt := 29) (eD DX0_countInside 7 rfl) rfl (by omega) (show eI (w 2 1) from by omega) (Int.not_lt.mp h1) ?_
    obtain ⟨rfl, rfl⟩ := k4 h1
    exact go_iload_n (eD DX0_countInside 17 rfl) rfl rfl (go_iret (eD DX0_countInside 18 rfl) rfl)
/-- how many cells are inside -/
def cnt2 (w : eW) : Int := sumI (fun y => popI (w 3 y)) 0 (w 2 1)
theorem y_X0_countInside (w : eW) (hB : HB w) : Cal mX0_countInside [eR 2] w (some (0, cnt2 w)) w := by
  obtain ⟨⟨b1, b2, b3, b4, b5, b6⟩, b7, b8, b9⟩ := id hB
  refine Cal.of (by decide +kernel) (Nat.le_of_ble_eq_true rfl) ?_
  refine tX0_countInside_0 w ?_
  have key := loop_up (P := fun y => Go mX0_countInside 4 [(0, eR 2), (1, (0, sumI (fun y => popI (w 3 y)) 0 y)), (2, (0, y))] [] w (some (0, cnt2 w)) w) 0 (w 2 1) ?_ ?_ 0 (by omega) (by omega)
  · exact key
  · refine tX0_countInside_4 w _ _ hB (by omega) ?_ ?_ ?_ ?_
    all_goals (intros; first | omega | exact ⟨rfl, rfl⟩)
  · intro y h1 h2 ih
    rw [sumI_succ _ h1] at ih
    refine tX0_countInside_4 w _ _ hB (by omega) ?_ ?_ ?_ ?_
    all_goals (intros; first | omega | exact ih)
theorem cnt2_bound {w : eW} (hB : HB w) : 0 ≤ cnt2 w ∧ cnt2 w ≤ 140 := by
  obtain ⟨⟨b1, b2, b3, b4, b5, b6⟩, b7, b8, b9⟩ := id hB
  have := sumI_bound (f := fun y => popI (w 3 y)) (a := 0) (b := w 2 1) (lo := 0) (hi := 14) b3 (fun i _ _ => popI_bound _)
  unfold cnt2
  omega
def DB (w : eW) : Prop := (0 ≤ w 9 0 ∧ w 9 0 ≤ 14 ∧ 0 ≤ w 9 1 ∧ w 9 1 ≤ 10 ∧ 0 ≤ w 9 2 ∧ w 9 2 ≤ 8) ∧ (∀ i, 0 ≤ i → i < 10 → 0 ≤ w 10 i ∧ w 10 i < 16384) ∧ (∀ i, 0 ≤ i → i < 4 → 0 ≤ w 11 i ∧ w 11 i ≤ 9) ∧ ∀ i, 0 ≤ i → i < 16 → 0 ≤ w 12 i ∧ w 12 i ≤ 56
set_option maxRecDepth 20000 in
theorem tX0_countInside9_0 {r : Option eV} {w9 : eW} (w : eW) (k1 : Go mX0_countInside 4 [(0, eR 9), (1, (0, 0)), (2, (0, 0))] [] w r w9) : Go mX0_countInside 0 [(0, eR 9)] [] w r w9 := by
  exact go_iconst (eD DX0_countInside 0 rfl) (go_istore_n (eD DX0_countInside 1 rfl) rfl (by decide) (go_iconst (eD DX0_countInside 2 rfl) (go_istore_n (eD DX0_countInside 3 rfl) rfl (by decide) (Go.pick [2, 1, 0] rfl (k1)))))
set_option maxRecDepth 20000 in
theorem tX0_countInside9_4 {r : Option eV} {w9 : eW} (w : eW) (n y : Int) (hB : DB w) (hy : 0 ≤ y ∧ y ≤ 10) (k1 : y < (w 9 1) → y < 0 → Go mX0_countInside 4 [(0, eR 9), (1, (0, n + (popI 0))), (2, (0, y + 1))] [] w r w9) (k2 : y < (w 9 1) → ¬ (y < 0) → y < 10 → Go mX0_countInside 4 [(0, eR 9), (1, (0, n + (popI (w 10 y)))), (2, (0, y + 1))] [] w r w9) (k3 : y < (w 9 1) → ¬ (y < 0) → ¬ (y < 10) → Go mX0_countInside 4 [(0, eR 9), (1, (0, n + (popI 0))), (2, (0, y + 1))] [] w r w9) (k4 : ¬ (y < (w 9 1)) → r = some (0, n) ∧ w9 = w) : Go mX0_countInside 4 [(0, eR 9), (1, (0, n)), (2, (0, y))] [] w r w9 := by
  obtain ⟨⟨b1, b2, b3, b4, b5, b6⟩, b7, b8, b9⟩ := id hB
  have b10 := b7 y
  refine go_iload_n (eD DX0_countInside 4 rfl) rfl rfl (go_aload_n (eD DX0_countInside 5 rfl) rfl rfl (go_getI (kz := 1) (eD DX0_countInside 6 rfl) fX0_15 (by decide) rfl rfl rfl (?_)))
  by_cases h1 : y < (w 9 1)
  · refine go_icmp_geF (tgt := 29) (eD DX0_countInside 7 rfl) rfl (by omega) (show eI (w 9 1) from by omega) (Int.not_le.mpr h1) ?_
    refine go_iload_n (eD DX0_countInside 8 rfl) rfl rfl (go_aload_n (eD DX0_countInside 9 rfl) rfl rfl (go_iload_n (eD DX0_countInside 10 rfl) rfl rfl (?_)))
    by_cases h2 : y < 0
    · refine go_callV (ci := 0) [(0, y)] (eD DX0_countInside 11 rfl) ⟨eMem 2 190 rfl rfl, sX0_lineAt⟩ ⟨Nat.le_of_ble_eq_true rfl, Nat.le_of_ble_eq_true rfl⟩ (by decide) ⟨rfl, by decide, _, rfl, rfl⟩ rfl rfl (Nat.le_of_ble_eq_true rfl) (Cal.as (zX0_lineAt9 w y (by omega) (by omega)) (r2 := some (0, 0)) (w2 := w) (by simp only [rX0_lineAt9, if_pos h1, if_pos h2]) rfl) (?_)
      exact go_callS [(0, 0)] (eD DX0_countInside 12 rfl) ⟨eMem 2 194 rfl rfl, sJ6_bitCount_0f7a4⟩ ⟨Nat.le_of_ble_eq_true rfl, Nat.le_of_ble_eq_true rfl⟩ rfl rfl (Nat.le_of_ble_eq_true rfl) (y_bitCount w 0 (show (0 : Int) ≤ 0 ∧ (0 : Int) < 16384 from by decide)) (go_iadd (eD DX0_countInside 13 rfl) (go_istore_n (eD DX0_countInside 14 rfl) rfl (by decide) (go_iinc (eD DX0_countInside 15 rfl) rfl (by decide) (go_goto (tgt := 4) (eD DX0_countInside 16 rfl) rfl (Go.pick [2, 1, 0] rfl (k1 h1 h2))))))
    · by_cases h3 : y < 10
      · refine go_callV (ci := 0) [(0, y)] (eD DX0_countInside 11 rfl) ⟨eMem 2 190 rfl rfl, sX0_lineAt⟩ ⟨Nat.le_of_ble_eq_true rfl, Nat.le_of_ble_eq_true rfl⟩ (by decide) ⟨rfl, by decide, _, rfl, rfl⟩ rfl rfl (Nat.le_of_ble_eq_true rfl) (Cal.as (zX0_lineAt9 w y (by omega) (by omega)) (r2 := some (0, w 10 y)) (w2 := w) (by simp only [rX0_lineAt9, if_pos h1, if_neg h2, if_pos h3]) rfl) (?_)
        exact go_callS [(0, w 10 y)] (eD DX0_countInside 12 rfl) ⟨eMem 2 194 rfl rfl, sJ6_bitCount_0f7a4⟩ ⟨Nat.le_of_ble_eq_true rfl, Nat.le_of_ble_eq_true rfl⟩ rfl rfl (Nat.le_of_ble_eq_true rfl) (y_bitCount w (w 10 y) (show 0 ≤ (w 10 y) ∧ (w 10 y) < 16384 from by omega)) (go_iadd (eD DX0_countInside 13 rfl) (go_istore_n (eD DX0_countInside 14 rfl) rfl (by decide) (go_iinc (eD DX0_countInside 15 rfl) rfl (by decide) (go_goto (tgt := 4) (eD DX0_countInside 16 rfl) rfl (Go.pick [2, 1, 0] rfl (k2 h1 h2 h3))))))
      · refine go_callV (ci := 0) [(0, y)] (eD DX0_countInside 11 rfl) ⟨eMem 2 190 rfl rfl, sX0_lineAt⟩ ⟨Nat.le_of_ble_eq_true rfl, Nat.le_of_ble_eq_true rfl⟩ (by decide) ⟨rfl, by decide, _, rfl, rfl⟩ rfl rfl (Nat.le_of_ble_eq_true rfl) (Cal.as (zX0_lineAt9 w y (by omega) (by omega)) (r2 := some (0, 0)) (w2 := w) (by simp only [rX0_lineAt9, if_pos h1, if_neg h2, if_neg h3]) rfl) (?_)
        exact go_callS [(0, 0)] (eD DX0_countInside 12 rfl) ⟨eMem 2 194 rfl rfl, sJ6_bitCount_0f7a4⟩ ⟨Nat.le_of_ble_eq_true rfl, Nat.le_of_ble_eq_true rfl⟩ rfl rfl (Nat.le_of_ble_eq_true rfl) (y_bitCount w 0 (show (0 : Int) ≤ 0 ∧ (0 : Int) < 16384 from by decide)) (go_iadd (eD DX0_countInside 13 rfl) (go_istore_n (eD DX0_countInside 14 rfl) rfl (by decide) (go_iinc (eD DX0_countInside 15 rfl) rfl (by decide) (go_goto (tgt := 4) (eD DX0_countInside 16 rfl) rfl (Go.pick [2, 1, 0] rfl (k3 h1 h2 h3))))))
  · refine go_icmp_geT (tgt := 29) (eD DX0_countInside 7 rfl) rfl (by omega) (show eI (w 9 1) from by omega) (Int.not_lt.mp h1) ?_
    obtain ⟨rfl, rfl⟩ := k4 h1
    exact go_iload_n (eD DX0_countInside 17 rfl) rfl rfl (go_iret (eD DX0_countInside 18 rfl) rfl)
/-- how many cells are inside -/
def cnt9 (w : eW) : Int := sumI (fun y => popI (w 10 y)) 0 (w 9 1)
theorem y_X0_countInside9 (w : eW) (hB : DB w) : Cal mX0_countInside [eR 9] w (some (0, cnt9 w)) w := by
  obtain ⟨⟨b1, b2, b3, b4, b5, b6⟩, b7, b8, b9⟩ := id hB
  refine Cal.of (by decide +kernel) (Nat.le_of_ble_eq_true rfl) ?_
  refine tX0_countInside9_0 w ?_
  have key := loop_up (P := fun y => Go mX0_countInside 4 [(0, eR 9), (1, (0, sumI (fun y => popI (w 10 y)) 0 y)), (2, (0, y))] [] w (some (0, cnt9 w)) w) 0 (w 9 1) ?_ ?_ 0 (by omega) (by omega)
  · exact key
  · refine tX0_countInside9_4 w _ _ hB (by omega) ?_ ?_ ?_ ?_
    all_goals (intros; first | omega | exact ⟨rfl, rfl⟩)
  · intro y h1 h2 ih
    rw [sumI_succ _ h1] at ih
    refine tX0_countInside9_4 w _ _ hB (by omega) ?_ ?_ ?_ ?_
    all_goals (intros; first | omega | exact ih)
theorem cnt9_bound {w : eW} (hB : DB w) : 0 ≤ cnt9 w ∧ cnt9 w ≤ 140 := by
  obtain ⟨⟨b1, b2, b3, b4, b5, b6⟩, b7, b8, b9⟩ := id hB
  have := sumI_bound (f := fun y => popI (w 10 y)) (a := 0) (b := w 9 1) (lo := 0) (hi := 14) b3 (fun i _ _ => popI_bound _)
  unfold cnt9
  omega
