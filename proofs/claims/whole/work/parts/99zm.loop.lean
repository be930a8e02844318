/-! the law: row, the loop -/
theorem l_iinc {E : eE} {cL : ClassId} {sa : Nat} {l : Launch} {p : Program} {e : Env} {s : State} {m : MethodId} {below : List Frame} {meth : Method} {c : Code} {L : Nat} {xs : Nat → Int32} {pc : Nat} {st : List eV} {w : eW} {f : Nat → Int64} {k n i : Nat} (X : lX E cL sa l p s m meth c L xs) (hd : decode code pc = .ok (.iinc 4 6, 3)) (g : LGo E cL l p e s m below meth c (pc + 3) (lB (i + 6)) st w f k n) : LGo E cL l p e s m below meth c pc (lB i) st w f k n := by
  intro H locs la hP ho hS hl
  refine lv_iinc (v := Int32.ofInt ((i : Int) + 6)) (lv' := (4, .int (Int32.ofInt ((i : Int) + 6))) :: [(0, .ref (E.2.1 98)), (1, .ref (E.2.1 0)), (2, .ref (E.2.1 33)), (3, .ref (E.2.1 99))]) X.1.1 X.1.2.1 hd hl (k := 4) rfl (Int32.ofInt_add (i : Int) 6).symm (by decide) rfl (fun la hl => ?_)
  refine g H locs la hP ho hS ⟨hl.1, hl.2.1, fun q hq => hl.2.2 q ?_⟩
  rw [show (i : Int) + 6 = ((i + 6 : Nat) : Int) by omega]
  simp only [lB, List.map_cons, List.map_nil, List.mem_cons, List.not_mem_nil, or_false] at hq ⊢
  rcases hq with rfl | rfl | rfl | rfl | rfl
  · exact Or.inr (Or.inl rfl)
  · exact Or.inr (Or.inr (Or.inl rfl))
  · exact Or.inr (Or.inr (Or.inr (Or.inl rfl)))
  · exact Or.inr (Or.inr (Or.inr (Or.inr rfl)))
  · exact Or.inl rfl
theorem eAnd_63 (a : Int) : eAnd a 63 = a % 64 := by
  unfold eAnd
  have e : (Int32.ofInt a &&& Int32.ofInt 63).toBitVec.toNat = (a % 64).toNat := by
    rw [Int32.toBitVec_and, BitVec.toNat_and, e_toNat (a := 63) (by decide) (by decide), Int32.toBitVec_ofInt, BitVec.toNat_ofInt, show (63 : Int).toNat = 2 ^ 6 - 1 from rfl, Nat.and_two_pow_sub_one_eq_mod]
    omega
  rw [e_ofBits (by rw [e]; omega), e]
  omega
theorem c_row {E : eE} {cL : ClassId} {sa : Nat} {l : Launch} {p : Program} {e : Env} {s : State} {m : MethodId} {below : List Frame} {meth : Method} {c : Code} {L : Nat} {xs : Nat → Int32} {w : eW} {f : Nat → Int64} {k n i : Nat} (X : lX E cL sa l p s m meth c L xs) (hi : i + 6 ≤ L) (hr : k + 1 ≤ 1087 ∧ n + 6 ≤ 23248) (hI : IV w) (g : ∀ w2 f2, IV w2 → LGo E cL l p e s m below meth c 1374 (lB i) [] w2 f2 (k + 1) (n + 6)) : LGo E cL l p e s m below meth c 1292 (lB i) [] w f k n := by
  have hB := hI.1
  obtain ⟨⟨b1, b2, b3, b4, b5, b6⟩, b7, -, -⟩ := id hB
  have hyI := x_eI (xs (i + 1))
  refine l_aload X (eD DL7 41 rfl) rfl rfl ?_
  refine l_arg 1 X (by omega) rfl rfl (eD DL7 42 rfl) (eD DL7 43 rfl) (eD DL7 44 rfl) (eD DL7 45 rfl) (eD DL7 46 rfl) ?_
  refine l_aload X (eD DL7 47 rfl) rfl rfl ?_
  by_cases hv : 0 < w 2 0 ∧ 0 ≤ (xs (i + 1)).toInt ∧ (xs (i + 1)).toInt < w 2 1
  · have hb := b7 (xs (i + 1)).toInt hv.2.1 (by omega)
    have hv3 : eI (w 3 (xs (i + 1)).toInt) := ⟨by omega, by omega⟩
    have hI2 := IV_0 hI
    have c1 := z_rowM (xs (i + 1)).toInt hI hv.2 (by omega)
    have c2 : Cal mX8_thrown [eR 33] (eU w 33 0 0) (some (0, 0)) (eU w 33 0 0) := Cal.as (zX8_thrown _) (by unfold rX8_thrown; rw [eU_get, if_pos rfl]) rfl
    refine l_row (y := (xs (i + 1)).toInt) (kk := 0) (rest := []) X (eD DL7 48 rfl) rfl (Nat.le_of_ble_eq_true rfl) rfl rfl hr (lrow_1 E l cL f w _ sa X.2.2.2.2.2.1 X.2.2.2.2.2.2.2.1 (z_row1 _ hI hv.2 (by omega)) hv3) ?_
    refine l_istore X (eD DL7 49 rfl) (by decide) ?_
    refine l_aload X (eD DL7 50 rfl) rfl rfl ?_
    refine l_arg (i := i) 1 X (by omega) rfl rfl (eD DL7 51 rfl) (eD DL7 52 rfl) (eD DL7 53 rfl) (eD DL7 54 rfl) (eD DL7 55 rfl) ?_
    refine l_call (ci := 8) (rest := []) [(0, (xs (i + 1)).toInt)] X (eD DL7 56 rfl) ⟨eMem 7 66 rfl rfl, sX8_row⟩ (by decide) (by decide) ⟨rfl, by decide, _, rfl, rfl⟩ rfl rfl (Nat.le_of_ble_eq_true rfl) hr c1 ?_
    refine l_istore X (eD DL7 57 rfl) (by decide) ?_
    refine l_aload X (eD DL7 58 rfl) rfl rfl ?_
    refine l_call (ci := 8) (rest := []) [] X (eD DL7 59 rfl) ⟨eMem 5 210 rfl rfl, sX8_thrown⟩ (by decide) (by decide) ⟨rfl, by decide, _, rfl, rfl⟩ rfl rfl (Nat.le_of_ble_eq_true rfl) hr c2 ?_
    refine l_iload X (eD DL7 60 rfl) rfl ?_
    refine l_same (tgt := 1328) X (eD DL7 61 rfl) (by decide) ?_
    refine l_iload X (eD DL7 64 rfl) rfl ?_
    refine l_ifne (tgt := 1345) X (eD DL7 65 rfl) (by decide) (by decide) (fun q => absurd rfl q) (fun _ => ?_)
    refine l_aload X (eD DL7 66 rfl) rfl rfl ?_
    refine l_iconst X (eD DL7 67 rfl) ?_
    refine l_lald (f0 := w 3 (xs (i + 1)).toInt) X (eD DL7 68 rfl) rfl ?_
    refine l_iload X (eD DL7 69 rfl) rfl ?_
    refine l_i2l X (eD DL7 70 rfl) hv3 ?_
    refine l_sameL (tgt := 1345) X (eD DL7 71 rfl) (eD DL7 72 rfl) (by decide) ?_
    refine l_goto (tgt := 1374) X (eD DL7 75 rfl) (by decide) ?_
    exact l_sub (ls2 := lB i) (fun q hq => by simp only [lB, List.mem_cons, List.not_mem_nil, or_false] at hq; rcases hq with rfl | rfl | rfl | rfl | rfl <;> simp [eLs, lB]) (g _ _ hI2)
  · have hI2 := IV_v 1 (IV_0 hI)
    have c1 := z_row0 (xs (i + 1)).toInt hyI hI (by omega)
    have c2 : Cal mX8_thrown [eR 33] (eU (eU w 33 0 0) 33 0 1) (some (0, 1)) (eU (eU w 33 0 0) 33 0 1) := Cal.as (zX8_thrown _) (by unfold rX8_thrown; rw [eU_get, if_pos rfl]) rfl
    refine l_row (y := (xs (i + 1)).toInt) (kk := 1) (rest := []) X (eD DL7 48 rfl) rfl (Nat.le_of_ble_eq_true rfl) rfl rfl hr (lrow_0 E l cL f w _ sa X.2.2.2.2.2.1 X.2.2.2.2.2.2.2.2.1 hB hyI hv) ?_
    refine l_istore X (eD DL7 49 rfl) (by decide) ?_
    refine l_aload X (eD DL7 50 rfl) rfl rfl ?_
    refine l_arg (i := i) 1 X (by omega) rfl rfl (eD DL7 51 rfl) (eD DL7 52 rfl) (eD DL7 53 rfl) (eD DL7 54 rfl) (eD DL7 55 rfl) ?_
    refine l_call (ci := 8) (rest := []) [(0, (xs (i + 1)).toInt)] X (eD DL7 56 rfl) ⟨eMem 7 66 rfl rfl, sX8_row⟩ (by decide) (by decide) ⟨rfl, by decide, _, rfl, rfl⟩ rfl rfl (Nat.le_of_ble_eq_true rfl) hr c1 ?_
    refine l_istore X (eD DL7 57 rfl) (by decide) ?_
    refine l_aload X (eD DL7 58 rfl) rfl rfl ?_
    refine l_call (ci := 8) (rest := []) [] X (eD DL7 59 rfl) ⟨eMem 5 210 rfl rfl, sX8_thrown⟩ (by decide) (by decide) ⟨rfl, by decide, _, rfl, rfl⟩ rfl rfl (Nat.le_of_ble_eq_true rfl) hr c2 ?_
    refine l_iload X (eD DL7 60 rfl) rfl ?_
    refine l_same (tgt := 1328) X (eD DL7 61 rfl) (by decide) ?_
    refine l_iload X (eD DL7 64 rfl) rfl ?_
    refine l_ifne (tgt := 1345) X (eD DL7 65 rfl) (by decide) (by decide) (fun _ => ?_) (fun q => absurd q (by decide))
    refine l_goto (tgt := 1374) X (eD DL7 75 rfl) (by decide) ?_
    exact l_sub (ls2 := lB i) (fun q hq => by simp only [lB, List.mem_cons, List.not_mem_nil, or_false] at hq; rcases hq with rfl | rfl | rfl | rfl | rfl <;> simp [eLs, lB]) (g _ _ hI2)
theorem law_turn {E : eE} {cL : ClassId} {sa : Nat} {l : Launch} {p : Program} {e : Env} {s : State} {m : MethodId} {below : List Frame} {meth : Method} {c : Code} {L : Nat} {xs : Nat → Int32} {w : eW} {f : Nat → Int64} {k n i : Nat} (X : lX E cL sa l p s m meth c L xs) (hi : i + 6 ≤ L) (hr : k + 1 ≤ 1087 ∧ n + 6 ≤ 23248) (hI : IV w) (g : ∀ w2 f2, IV w2 → LGo E cL l p e s m below meth c 1374 (lB i) [] w2 f2 (k + 1) (n + 6)) : LGo E cL l p e s m below meth c 33 (lB i) [] w f k n := by
  have g2 : ∀ w2, IV w2 → LGo E cL l p e s m below meth c 1374 (lB i) [] w2 f k n := fun w2 h2 => l_widen (k + 1) (n + 6) (by omega) (by omega) (g w2 f h2)
  refine l_aload X (eD DL0 19 rfl) rfl rfl ?_
  refine l_iload X (eD DL0 20 rfl) rfl ?_
  refine l_sld (i := i) X (by omega) (eD DL0 21 rfl) ?_
  refine l_bipush X (eD DL0 22 rfl) (by decide) ?_
  refine l_iand X (eD DL0 23 rfl) ?_
  rw [eAnd_63]
  have hb : 0 ≤ (xs i).toInt % 64 ∧ (xs i).toInt % 64 < 64 := by omega
  generalize (xs i).toInt % 64 = v at hb ⊢
  by_cases hv : 34 < v
  · exact l_tableO (tgt := 1374) X (eD DL0 24 rfl) (by omega) (Or.inr hv) (by decide) (g2 w hI)
  · have key : ∀ j : Nat, j < 35 → LGo E cL l p e s m below meth c 40 (lB i) [(0, (j : Int))] w f k n := by
      intro j hj
      match j, hj with
      | 0, _ => exact l_table (tgt := 196) X (eD DL0 24 rfl) (by decide) (by decide) (by decide) rfl (by decide) (c_feed X hi hr hI g2)
      | 1, _ => exact l_table (tgt := 269) X (eD DL0 24 rfl) (by decide) (by decide) (by decide) rfl (by decide) (c_text X hi hr hI g2)
      | 2, _ => exact l_table (tgt := 294) X (eD DL0 24 rfl) (by decide) (by decide) (by decide) rfl (by decide) (c_fault X hi hr hI g2)
      | 3, _ => exact l_table (tgt := 307) X (eD DL0 24 rfl) (by decide) (by decide) (by decide) rfl (by decide) (c_where X hi hr hI g2)
      | 4, _ => exact l_table (tgt := 320) X (eD DL0 24 rfl) (by decide) (by decide) (by decide) rfl (by decide) (c_about X hi hr hI g2)
      | 5, _ => exact l_table (tgt := 345) X (eD DL0 24 rfl) (by decide) (by decide) (by decide) rfl (by decide) (c_cell X hi hr hI g2)
      | 6, _ => exact l_table (tgt := 382) X (eD DL0 24 rfl) (by decide) (by decide) (by decide) rfl (by decide) (c_speed X hi hr hI g2)
      | 7, _ => exact l_table (tgt := 407) X (eD DL0 24 rfl) (by decide) (by decide) (by decide) rfl (by decide) (c_wall X hi hr hI g2)
      | 8, _ => exact l_table (tgt := 444) X (eD DL0 24 rfl) (by decide) (by decide) (by decide) rfl (by decide) (c_wallOf X hi hr hI g2)
      | 9, _ => exact l_table (tgt := 493) X (eD DL0 24 rfl) (by decide) (by decide) (by decide) rfl (by decide) (c_mark X hi hr hI g2)
      | 10, _ => exact l_table (tgt := 530) X (eD DL0 24 rfl) (by decide) (by decide) (by decide) rfl (by decide) (c_height X hi hr hI g2)
      | 11, _ => exact l_table (tgt := 579) X (eD DL0 24 rfl) (by decide) (by decide) (by decide) rfl (by decide) (c_slopes X hi hr hI g2)
      | 12, _ => exact l_table (tgt := 616) X (eD DL0 24 rfl) (by decide) (by decide) (by decide) rfl (by decide) (c_drop X hi hr hI g2)
      | 13, _ => exact l_table (tgt := 653) X (eD DL0 24 rfl) (by decide) (by decide) (by decide) rfl (by decide) (c_catches X hi hr hI g2)
      | 14, _ => exact l_table (tgt := 678) X (eD DL0 24 rfl) (by decide) (by decide) (by decide) rfl (by decide) (c_faces X hi hr hI g2)
      | 15, _ => exact l_table (tgt := 703) X (eD DL0 24 rfl) (by decide) (by decide) (by decide) rfl (by decide) (c_rim X hi hr hI g2)
      | 16, _ => exact l_table (tgt := 728) X (eD DL0 24 rfl) (by decide) (by decide) (by decide) rfl (by decide) (c_highest X hi hr hI g2)
      | 17, _ => exact l_table (tgt := 753) X (eD DL0 24 rfl) (by decide) (by decide) (by decide) rfl (by decide) (c_ranked X hi hr hI g2)
      | 18, _ => exact l_table (tgt := 778) X (eD DL0 24 rfl) (by decide) (by decide) (by decide) rfl (by decide) (c_points X hi hr hI g2)
      | 19, _ => exact l_table (tgt := 815) X (eD DL0 24 rfl) (by decide) (by decide) (by decide) rfl (by decide) (c_pieces X hi hr hI g2)
      | 20, _ => exact l_table (tgt := 852) X (eD DL0 24 rfl) (by decide) (by decide) (by decide) rfl (by decide) (c_area X hi hr hI g2)
      | 21, _ => exact l_table (tgt := 902) X (eD DL0 24 rfl) (by decide) (by decide) (by decide) rfl (by decide) (c_piece X hi hr hI g2)
      | 22, _ => exact l_table (tgt := 964) X (eD DL0 24 rfl) (by decide) (by decide) (by decide) rfl (by decide) (c_event X hi hr hI g2)
      | 23, _ => exact l_table (tgt := 1001) X (eD DL0 24 rfl) (by decide) (by decide) (by decide) rfl (by decide) (c_top X hi hr hI g2)
      | 24, _ => exact l_table (tgt := 1026) X (eD DL0 24 rfl) (by decide) (by decide) (by decide) rfl (by decide) (c_higher X hi hr hI g2)
      | 25, _ => exact l_table (tgt := 1063) X (eD DL0 24 rfl) (by decide) (by decide) (by decide) rfl (by decide) (c_under X hi hr hI g2)
      | 26, _ => exact l_table (tgt := 1089) X (eD DL0 24 rfl) (by decide) (by decide) (by decide) rfl (by decide) (c_would X hi hr hI g2)
      | 27, _ => exact l_table (tgt := 1139) X (eD DL0 24 rfl) (by decide) (by decide) (by decide) rfl (by decide) (c_set X hi hr hI g2)
      | 28, _ => exact l_table (tgt := 1204) X (eD DL0 24 rfl) (by decide) (by decide) (by decide) rfl (by decide) (c_runs X hi hr hI g2)
      | 29, _ => exact l_table (tgt := 1241) X (eD DL0 24 rfl) (by decide) (by decide) (by decide) rfl (by decide) (c_turn X hi hr hI g2)
      | 30, _ => exact l_table (tgt := 1266) X (eD DL0 24 rfl) (by decide) (by decide) (by decide) rfl (by decide) (c_grow X hi hr hI g2)
      | 31, _ => exact l_table (tgt := 1279) X (eD DL0 24 rfl) (by decide) (by decide) (by decide) rfl (by decide) (c_undo X hi hr hI g2)
      | 32, _ => exact l_table (tgt := 1292) X (eD DL0 24 rfl) (by decide) (by decide) (by decide) rfl (by decide) (c_row X hi hr hI g)
      | 33, _ => exact l_table (tgt := 1348) X (eD DL0 24 rfl) (by decide) (by decide) (by decide) rfl (by decide) (c_bytes X hi hr hI g2)
      | 34, _ => exact l_table (tgt := 1361) X (eD DL0 24 rfl) (by decide) (by decide) (by decide) rfl (by decide) (c_trouble X hi hr hI g2)
      | j + 35, h => exact absurd h (by omega)
    have := key v.toNat (by omega)
    rw [show ((v.toNat : Nat) : Int) = v by omega] at this
    exact this
theorem law_loop {E : eE} {cL : ClassId} {sa : Nat} {l : Launch} {p : Program} {e : Env} {s : State} {m : MethodId} {below : List Frame} {meth : Method} {c : Code} {L : Nat} {xs : Nat → Int32} (X : lX E cL sa l p s m meth c L xs) : ∀ (d t : Nat) (w : eW) (f : Nat → Int64), L < 6 * t + 6 * d → 6 * t ≤ L → IV w → LGo E cL l p e s m below meth c 23 (lB (6 * t)) [] w f (62 + t) (15050 + 6 * t) := by
  have hL := X.2.1
  intro d
  induction d with
  | zero => intro t w f h1 h2; omega
  | succ d ih =>
    intro t w f h1 h2 hI
    refine l_iload X (eD DL0 13 rfl) rfl ?_
    refine l_aload X (eD DL0 14 rfl) rfl rfl ?_
    refine l_slen X (eD DL0 15 rfl) ?_
    refine l_bipush X (eD DL0 16 rfl) (by decide) ?_
    refine l_isub X (eD DL0 17 rfl) ?_
    refine l_gt (tgt := 1380) X (eD DL0 18 rfl) (by decide) ⟨by omega, by omega⟩ ⟨by omega, by omega⟩ (fun _ => l_end X (eD DL7 92 rfl) (eD DL7 93 rfl) (by omega) (by omega)) (fun q => ?_)
    refine law_turn X (by omega) ⟨by omega, by omega⟩ hI (fun w2 f2 hI2 => ?_)
    refine l_iinc X (eD DL7 90 rfl) (l_goto (tgt := 23) X (eD DL7 91 rfl) (by decide) ?_)
    exact ih (t + 1) w2 f2 (by omega) (by omega) hI2
