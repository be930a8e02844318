set_option maxHeartbeats 4000000 in
set_option maxRecDepth 20000 in
theorem tX8_pieces_no_0 {r : Option eV} {w9 : eW} (w : eW) (a b : Int) (hM : MB w) (h28 : w 33 28 = 0) (k1 : r = some (0, (-1)) ∧ w9 = (eU (eU (eU w 33 0 0) 33 1 1) 33 2 (-1))) : Go mX8_pieces 0 [(0, eR 33), (1, (0, a)), (2, (0, b))] [] w r w9 := by
  obtain ⟨⟨c1, c2, c3, c4, c5, c6, c7, c8, c9, c10⟩, c11, c12, c13⟩ := id hM
  have a1 : (w 33 28) = 0 := by omega
  refine go_aload_n (eD DX8_pieces 0 rfl) rfl rfl (go_iconst (eD DX8_pieces 1 rfl) (go_putI (kz := 0) (eD DX8_pieces 2 rfl) fX8_95 (by decide) rfl rfl (fun q h => by cases h; exact ⟨rfl, rfl⟩) rfl (go_aload_n (eD DX8_pieces 3 rfl) rfl rfl (go_getI (kz := 28) (eD DX8_pieces 4 rfl) fX8_228 (by decide) rfl rfl rfl (go_if_neF (tgt := 18) (eD DX8_pieces 5 rfl) rfl (show eI (w 33 28) from by omega) (not_not_intro a1) (?_))))))
  refine go_aload_n (eD DX8_pieces 6 rfl) rfl rfl (go_iconst (eD DX8_pieces 7 rfl) (?_))
  refine go_callV (ci := 8) [(0, 1)] (eD DX8_pieces 8 rfl) ⟨eMem 5 233 rfl rfl, sX8_refused⟩ ⟨Nat.le_of_ble_eq_true rfl, Nat.le_of_ble_eq_true rfl⟩ (by decide) ⟨rfl, by decide, _, rfl, rfl⟩ rfl rfl (Nat.le_of_ble_eq_true rfl) (Cal.as (zX8_refused (eU w 33 0 0) 1  ) (r2 := some (0, (-1))) (w2 := (eU (eU (eU w 33 0 0) 33 1 1) 33 2 (-1))) (by (try simp only [rX8_refused, if_pos a1]) <;> (try rfl)) (by (try simp only [wX8_refused, if_pos a1]) <;> (try rfl))) (?_)
  rw [(k1).1, (k1).2]
  exact go_iret (eD DX8_pieces 9 rfl) rfl
set_option maxHeartbeats 4000000 in
set_option maxRecDepth 20000 in
theorem tX8_area_no_0 {r : Option eV} {w9 : eW} (w : eW) (a b what : Int) (hM : MB w) (h28 : w 33 28 = 0) (k1 : r = some (1, (-1)) ∧ w9 = (eU (eU (eU w 33 0 0) 33 1 1) 33 2 (-1))) : Go mX8_area 0 [(0, eR 33), (1, (0, a)), (2, (0, b)), (3, (0, what))] [] w r w9 := by
  obtain ⟨⟨c1, c2, c3, c4, c5, c6, c7, c8, c9, c10⟩, c11, c12, c13⟩ := id hM
  have a1 : (w 33 28) = 0 := by omega
  refine go_aload_n (eD DX8_area 0 rfl) rfl rfl (go_iconst (eD DX8_area 1 rfl) (go_putI (kz := 0) (eD DX8_area 2 rfl) fX8_95 (by decide) rfl rfl (fun q h => by cases h; exact ⟨rfl, rfl⟩) rfl (go_aload_n (eD DX8_area 3 rfl) rfl rfl (go_getI (kz := 28) (eD DX8_area 4 rfl) fX8_228 (by decide) rfl rfl rfl (go_if_eqT (tgt := 21) (eD DX8_area 5 rfl) rfl (show eI (w 33 28) from by omega) a1 (?_))))))
  refine go_aload_n (eD DX8_area 11 rfl) rfl rfl (go_iconst (eD DX8_area 12 rfl) (?_))
  refine go_callV (ci := 8) [(0, 1)] (eD DX8_area 13 rfl) ⟨eMem 5 233 rfl rfl, sX8_refused⟩ ⟨Nat.le_of_ble_eq_true rfl, Nat.le_of_ble_eq_true rfl⟩ (by decide) ⟨rfl, by decide, _, rfl, rfl⟩ rfl rfl (Nat.le_of_ble_eq_true rfl) (Cal.as (zX8_refused (eU w 33 0 0) 1  ) (r2 := some (0, (-1))) (w2 := (eU (eU (eU w 33 0 0) 33 1 1) 33 2 (-1))) (by (try simp only [rX8_refused, if_pos a1]) <;> (try rfl)) (by (try simp only [wX8_refused, if_pos a1]) <;> (try rfl))) (?_)
  rw [(k1).1, (k1).2]
  exact go_i2l (eD DX8_area 14 rfl) (by decide) (go_lret (eD DX8_area 15 rfl) rfl)
set_option maxHeartbeats 4000000 in
set_option maxRecDepth 20000 in
theorem tX8_piece_no_0 {r : Option eV} {w9 : eW} (w : eW) (a b i what : Int) (hM : MB w) (h28 : w 33 28 = 0) (k1 : r = some (1, (-1)) ∧ w9 = (eU (eU (eU w 33 0 0) 33 1 1) 33 2 (-1))) : Go mX8_piece 0 [(0, eR 33), (1, (0, a)), (2, (0, b)), (3, (0, i)), (4, (0, what))] [] w r w9 := by
  obtain ⟨⟨c1, c2, c3, c4, c5, c6, c7, c8, c9, c10⟩, c11, c12, c13⟩ := id hM
  have a1 : (w 33 28) = 0 := by omega
  refine go_aload_n (eD DX8_piece 0 rfl) rfl rfl (go_iconst (eD DX8_piece 1 rfl) (go_putI (kz := 0) (eD DX8_piece 2 rfl) fX8_95 (by decide) rfl rfl (fun q h => by cases h; exact ⟨rfl, rfl⟩) rfl (go_aload_n (eD DX8_piece 3 rfl) rfl rfl (go_getI (kz := 28) (eD DX8_piece 4 rfl) fX8_228 (by decide) rfl rfl rfl (go_if_eqT (tgt := 26) (eD DX8_piece 5 rfl) rfl (show eI (w 33 28) from by omega) a1 (?_))))))
  refine go_aload_n (eD DX8_piece 13 rfl) rfl rfl (go_iconst (eD DX8_piece 14 rfl) (?_))
  refine go_callV (ci := 8) [(0, 1)] (eD DX8_piece 15 rfl) ⟨eMem 5 233 rfl rfl, sX8_refused⟩ ⟨Nat.le_of_ble_eq_true rfl, Nat.le_of_ble_eq_true rfl⟩ (by decide) ⟨rfl, by decide, _, rfl, rfl⟩ rfl rfl (Nat.le_of_ble_eq_true rfl) (Cal.as (zX8_refused (eU w 33 0 0) 1  ) (r2 := some (0, (-1))) (w2 := (eU (eU (eU w 33 0 0) 33 1 1) 33 2 (-1))) (by (try simp only [rX8_refused, if_pos a1]) <;> (try rfl)) (by (try simp only [wX8_refused, if_pos a1]) <;> (try rfl))) (?_)
  rw [(k1).1, (k1).2]
  exact go_i2l (eD DX8_piece 16 rfl) (by decide) (go_lret (eD DX8_piece 17 rfl) rfl)
theorem ac_b {w : eW} (hH : HH w) : (2 ≤ w 4 1 + w 4 3 ∧ w 4 1 + w 4 3 ≤ 18) ∧ 2 ≤ w 4 0 + w 4 2 ∧ w 4 0 + w 4 2 ≤ 18 := by
  have p0 := sp_of hH 0 (by decide) (by decide)
  have p1 := sp_of hH 1 (by decide) (by decide)
  have p2 := sp_of hH 2 (by decide) (by decide)
  have p3 := sp_of hH 3 (by decide) (by decide)
  omega
theorem z_mX {w u : eW} (m : MZ w u) (p q : Int) : mX u p q = p * (w 4 1 + w 4 3) / q ∧ fX u p q = p * (w 4 1 + w 4 3) % q ∧ mY u p q = p * (w 4 0 + w 4 2) / q ∧ fY u p q = p * (w 4 0 + w 4 2) % q := by
  have e1 : u 38 141 * p + u 38 143 * p = p * (w 4 1 + w 4 3) := by rw [← Int.add_mul, m.2.2.2.1.1, Int.mul_comm]
  have e2 : u 38 142 * p + u 38 140 * p = p * (w 4 0 + w 4 2) := by rw [← Int.add_mul, Int.add_comm, m.2.2.2.1.2, Int.mul_comm]
  unfold mX fX mY fY
  rw [e1, e2]
  exact ⟨rfl, rfl, rfl, rfl⟩
theorem s_pieces (a b : Int) (ha : eI a) (hb : eI b) : ST 0 mX7_pieces mX8_pieces [(0, a), (0, b)] := by
  intro w hI
  obtain ⟨hB, hM, hS, hO, -, hT, -, hC⟩ := id hI
  obtain ⟨⟨b1, b2, b3, b4, b5, b6⟩, b7, b8, b9⟩ := id hB
  have hpt := zX7_timeTrouble w a b ha hb hB
  rcases hO with ⟨o1, o2, o3, o4, o5⟩ | ⟨o1, o2, o3, hH, hmk, hne⟩
  · rw [tt_1 o2] at hpt
    refine step_q (r := (0, -1)) (v := 1) hI (by decide) ⟨w, Cal.of (by decide +kernel) (Nat.le_of_ble_eq_true rfl) ?_, Fr.rf, hC⟩ (fun u m => ?_)
    · apply tX7_pieces_0 w a b hB (tt := 1) (by decide) hpt (w1 := w) (vv := 0) <;> (intros; first | with_reducible exact ⟨rfl, rfl⟩ | contradiction | (exfalso; omega))
    · obtain ⟨m1, ⟨n1, n2, n3, n4, n5⟩, m3, m4, m5, m6, m7, m8, m9, m10, m11, m12⟩ := id m
      refine ⟨eU u 33 0 0, Cal.of (by decide +kernel) (Nat.le_of_ble_eq_true rfl) ?_, Fr.rf, fun _ _ _ => rfl⟩
      apply tX8_pieces_no_0 u a b m1 (by omega) <;> (intros; first | with_reducible exact ⟨rfl, rfl⟩ | contradiction | (exfalso; omega))
  · by_cases c : 0 ≤ a ∧ a ≤ 9999 ∧ 1 ≤ b ∧ b ≤ 9999
    · rw [tt_0 o2 o3 c] at hpt
      obtain ⟨w1, n, a1, a2, a3, a4⟩ := y_X4_countLeft w a b hH (by omega) (by omega)
      refine step_q (r := (0, (n : Int))) (v := 0) hI (by decide) ⟨w1, Cal.of (by decide +kernel) (Nat.le_of_ble_eq_true rfl) ?_, a4.mono (by decide), CA_fr a4 (by decide) hC⟩ (fun u m => ?_)
      · apply tX7_pieces_0 w a b hB (tt := 0) (by decide) hpt (w1 := w1) (vv := (n : Int)) (fun _ => a3) <;> (intros; first | with_reducible exact ⟨rfl, rfl⟩ | contradiction | (exfalso; omega))
      · obtain ⟨m1, ⟨n1, n2, n3, n4, n5⟩, m3, m4, m5, m6, m7, m8, m9, m10, m11, m12⟩ := id m
        obtain ⟨u1, sX, iX, sY, iY, n', z1, z2⟩ := y_X8_lays (eU u 33 0 0) a b m.z.1 (m.z.2.2.2.2.2.2.2.1 hH) (by omega) (by omega)
        have e := z_mX m.z a b
        have z3 := z2.2.2.2.2.2.2.1
        rw [m.z.2.2.1, e.1, e.2.2.1] at z3
        have en : u1 33 44 = (n : Int) := by rw [z2.2.2.2.2.2.2.2.1, isNp_one z3 a1]
        refine ⟨u1, Cal.of (by decide +kernel) (Nat.le_of_ble_eq_true rfl) ?_, z2.1.q.1, z2.1.q.2⟩
        rw [← en]
        apply tX8_pieces_0 u a b (w1 := u1) m1 ha hb (fun _ => z1) <;> (intros; first | with_reducible exact ⟨rfl, rfl⟩ | contradiction | (exfalso; omega))
    · rw [tt_2 o2 o3 c] at hpt
      refine step_q (r := (0, -1)) (v := 2) hI (by decide) ⟨w, Cal.of (by decide +kernel) (Nat.le_of_ble_eq_true rfl) ?_, Fr.rf, hC⟩ (fun u m => ?_)
      · apply tX7_pieces_0 w a b hB (tt := 2) (by decide) hpt (w1 := w) (vv := 0) <;> (intros; first | with_reducible exact ⟨rfl, rfl⟩ | contradiction | (exfalso; omega))
      · obtain ⟨m1, ⟨n1, n2, n3, n4, n5⟩, m3, m4, m5, m6, m7, m8, m9, m10, m11, m12⟩ := id m
        refine ⟨eU u 33 0 0, Cal.of (by decide +kernel) (Nat.le_of_ble_eq_true rfl) ?_, Fr.rf, fun _ _ _ => rfl⟩
        apply tX8_pieces_0 u a b (w1 := u) m1 ha hb (fun q => absurd q c) <;> (intros; first | with_reducible exact ⟨rfl, rfl⟩ | contradiction | (exfalso; omega))
theorem bb_b {b : Int} (hb : eI b) : eJ (b * b) := by
  have h1 : b * b ≤ 2147483648 * 2147483648 := by
    have := Int.natAbs_mul_self (a := b)
    have h2 : b.natAbs ≤ 2147483648 := by omega
    have h3 := Nat.mul_le_mul h2 h2
    omega
  have h0 : 0 ≤ b * b := by
    have := Int.natAbs_mul_self (a := b)
    omega
  omega
theorem bb_c {b : Int} (hb : 1 ≤ b ∧ b ≤ 9999) : 0 < b * b ∧ b * b < 4611686018427387904 := by
  have h1 := Int.mul_le_mul hb.2 hb.2 (by omega) (by omega)
  have h2 : 0 < b * b := Int.mul_pos (by omega) (by omega)
  omega
theorem f_b (x : Int) {b : Int} (hb : 1 ≤ b ∧ b ≤ 9999) : 0 ≤ x % b ∧ x % b < b := ⟨Int.emod_nonneg _ (by omega), Int.emod_lt_of_pos _ (by omega)⟩
theorem s_area (a b what : Int) (ha : eI a) (hb : eI b) (hw : eI what) : ST 1 mX7_area mX8_area [(0, a), (0, b), (0, what)] := by
  intro w hI
  obtain ⟨hB, hM, hS, hO, -, hT, -, hC⟩ := id hI
  obtain ⟨⟨b1, b2, b3, b4, b5, b6⟩, b7, b8, b9⟩ := id hB
  have hpt := zX7_timeTrouble w a b ha hb hB
  rcases hO with ⟨o1, o2, o3, o4, o5⟩ | ⟨o1, o2, o3, hH, hmk, hne⟩
  · rw [tt_1 o2] at hpt
    refine step_q (r := (1, -1)) (v := 1) hI (by decide) ⟨w, Cal.of (by decide +kernel) (Nat.le_of_ble_eq_true rfl) ?_, Fr.rf, hC⟩ (fun u m => ?_)
    · apply tX7_area_0 w a b what hB (tt := 1) (by decide) hpt (w1 := w) (ar := 0) hw ha hb (bb_b hb) (fun q => absurd q (by decide)) (by decide) <;> (intros; first | with_reducible exact ⟨rfl, rfl⟩ | contradiction | (exfalso; omega))
    · obtain ⟨m1, ⟨n1, n2, n3, n4, n5⟩, m3, m4, m5, m6, m7, m8, m9, m10, m11, m12⟩ := id m
      refine ⟨eU u 33 0 0, Cal.of (by decide +kernel) (Nat.le_of_ble_eq_true rfl) ?_, Fr.rf, fun _ _ _ => rfl⟩
      apply tX8_area_no_0 u a b what m1 (by omega) <;> (intros; first | with_reducible exact ⟨rfl, rfl⟩ | contradiction | (exfalso; omega))
  · by_cases c : 0 ≤ a ∧ a ≤ 9999 ∧ 1 ≤ b ∧ b ≤ 9999
    · rw [tt_0 o2 o3 c] at hpt
      obtain ⟨w1, a1, a2⟩ := y_X4_areaLeft w a b hH (by omega) (by omega)
      have hbb := bb_c (b := b) (by omega)
      have fb1 := f_b (a * (w 4 1 + w 4 3)) (b := b) (by omega)
      have fb2 := f_b (a * (w 4 0 + w 4 2)) (b := b) (by omega)
      have har := arF_b (sT (gC w) (a * (w 4 1 + w 4 3) / b) (a * (w 4 0 + w 4 2) / b)) (q := b) (f := a * (w 4 1 + w 4 3) % b) (g := a * (w 4 0 + w 4 2) % b) (by omega) (by omega) (by omega)
      generalize eAR : arF (sT (gC w) (a * (w 4 1 + w 4 3) / b) (a * (w 4 0 + w 4 2) / b)) b (a * (w 4 1 + w 4 3) % b) (a * (w 4 0 + w 4 2) % b) = AR at *
      by_cases c1 : what = 0 ∨ what = 1
      · refine step_q (r := (1, if what = 0 then rdA AR (b * b) else rdB AR (b * b))) (v := 0) hI (by decide) ⟨eU (eU w1 32 0 (rdA AR (b * b))) 32 1 (rdB AR (b * b)), Cal.of (by decide +kernel) (Nat.le_of_ble_eq_true rfl) ?_, ((a2.mono (by decide)).put (by decide)).put (by decide), CA_fr (S := [25, 32]) (((a2.mono (by decide)).put (by decide)).put (by decide)) (by decide) hC⟩ (fun u m => ?_)
        · apply tX7_area_0 w a b what hB (tt := 0) (by decide) hpt (w1 := w1) (ar := AR) hw ha hb (bb_b hb) (fun _ => hbb) (by omega) (fun _ => a1)
          · intro _ _
            refine ⟨?_, rfl⟩
            rw [part_32]
          all_goals (intros; first | with_reducible exact ⟨rfl, rfl⟩ | contradiction | (exfalso; omega))
        · obtain ⟨m1, ⟨n1, n2, n3, n4, n5⟩, m3, m4, m5, m6, m7, m8, m9, m10, m11, m12⟩ := id m
          obtain ⟨u1, sX, iX, sY, iY, n', z1, z2⟩ := y_X8_lays (eU u 33 0 0) a b m.z.1 (m.z.2.2.2.2.2.2.2.1 hH) (by omega) (by omega)
          have e := z_mX m.z a b
          have z3 := (y_X8_areaL m.z.1 (m.z.2.2.2.2.2.2.2.1 hH) (by omega) (by omega) z2 (by omega) what c1).2
          rw [m.z.2.2.1, e.1, e.2.1, e.2.2.1, e.2.2.2, eAR] at z3
          refine ⟨u1, Cal.of (by decide +kernel) (Nat.le_of_ble_eq_true rfl) ?_, z2.1.q.1, z2.1.q.2⟩
          apply tX8_area_0 u a b what (w1 := u1) m1 ha hb hw (fun _ => z1)
          · intro z; exfalso; omega
          · intro _ _ _; exact z3
          · intro _ _ z; exact absurd c z
          · intro _ z; exfalso; omega
      · refine step_q (r := (1, -1)) (v := 1) hI (by decide) ⟨w, Cal.of (by decide +kernel) (Nat.le_of_ble_eq_true rfl) ?_, Fr.rf, hC⟩ (fun u m => ?_)
        · apply tX7_area_0 w a b what hB (tt := 0) (by decide) hpt (w1 := w1) (ar := AR) hw ha hb (bb_b hb) (fun _ => hbb) (by omega) (fun _ => a1) <;> (intros; first | with_reducible exact ⟨rfl, rfl⟩ | contradiction | (exfalso; omega))
        · obtain ⟨m1, ⟨n1, n2, n3, n4, n5⟩, m3, m4, m5, m6, m7, m8, m9, m10, m11, m12⟩ := id m
          obtain ⟨u1, sX, iX, sY, iY, n', z1, z2⟩ := y_X8_lays (eU u 33 0 0) a b m.z.1 (m.z.2.2.2.2.2.2.2.1 hH) (by omega) (by omega)
          refine ⟨eU u 33 0 0, Cal.of (by decide +kernel) (Nat.le_of_ble_eq_true rfl) ?_, Fr.rf, fun _ _ _ => rfl⟩
          apply tX8_area_0 u a b what (w1 := u1) m1 ha hb hw (fun _ => z1) <;> (intros; first | with_reducible exact ⟨rfl, rfl⟩ | contradiction | (exfalso; omega))
    · rw [tt_2 o2 o3 c] at hpt
      by_cases c1 : what = 0 ∨ what = 1
      · refine step_q (r := (1, -1)) (v := 2) hI (by decide) ⟨w, Cal.of (by decide +kernel) (Nat.le_of_ble_eq_true rfl) ?_, Fr.rf, hC⟩ (fun u m => ?_)
        · apply tX7_area_0 w a b what hB (tt := 2) (by decide) hpt (w1 := w) (ar := 0) hw ha hb (bb_b hb) (fun q => absurd q (by decide)) (by decide) <;> (intros; first | with_reducible exact ⟨rfl, rfl⟩ | contradiction | (exfalso; omega))
        · obtain ⟨m1, ⟨n1, n2, n3, n4, n5⟩, m3, m4, m5, m6, m7, m8, m9, m10, m11, m12⟩ := id m
          refine ⟨eU u 33 0 0, Cal.of (by decide +kernel) (Nat.le_of_ble_eq_true rfl) ?_, Fr.rf, fun _ _ _ => rfl⟩
          apply tX8_area_0 u a b what (w1 := u) m1 ha hb hw (fun q => absurd q c) <;> (intros; first | with_reducible exact ⟨rfl, rfl⟩ | contradiction | (exfalso; omega))
      · refine step_q (r := (1, -1)) (v := 1) hI (by decide) ⟨w, Cal.of (by decide +kernel) (Nat.le_of_ble_eq_true rfl) ?_, Fr.rf, hC⟩ (fun u m => ?_)
        · apply tX7_area_0 w a b what hB (tt := 2) (by decide) hpt (w1 := w) (ar := 0) hw ha hb (bb_b hb) (fun q => absurd q (by decide)) (by decide) <;> (intros; first | with_reducible exact ⟨rfl, rfl⟩ | contradiction | (exfalso; omega))
        · obtain ⟨m1, ⟨n1, n2, n3, n4, n5⟩, m3, m4, m5, m6, m7, m8, m9, m10, m11, m12⟩ := id m
          refine ⟨eU u 33 0 0, Cal.of (by decide +kernel) (Nat.le_of_ble_eq_true rfl) ?_, Fr.rf, fun _ _ _ => rfl⟩
          apply tX8_area_0 u a b what (w1 := u) m1 ha hb hw (fun q => absurd q c) <;> (intros; first | with_reducible exact ⟨rfl, rfl⟩ | contradiction | (exfalso; omega))
theorem s_piece (a b i what : Int) (ha : eI a) (hb : eI b) (hi : eI i) (hw : eI what) : ST 1 mX7_piece mX8_piece [(0, a), (0, b), (0, i), (0, what)] := by
  intro w hI
  obtain ⟨hB, hM, hS, hO, -, hT, -, hC⟩ := id hI
  obtain ⟨⟨b1, b2, b3, b4, b5, b6⟩, b7, b8, b9⟩ := id hB
  have hpt := zX7_timeTrouble w a b ha hb hB
  rcases hO with ⟨o1, o2, o3, o4, o5⟩ | ⟨o1, o2, o3, hH, hmk, hne⟩
  · rw [tt_1 o2] at hpt
    refine step_q (r := (1, -1)) (v := 1) hI (by decide) ⟨w, Cal.of (by decide +kernel) (Nat.le_of_ble_eq_true rfl) ?_, Fr.rf, hC⟩ (fun u m => ?_)
    · apply tX7_piece_0 w a b i what hB (tt := 1) (by decide) hpt (w1 := w) (ar := 0) hi hw ha hb (bb_b hb) (fun q => absurd q (by decide)) (by decide) (fun q => absurd q (by decide)) <;> (intros; first | with_reducible exact ⟨rfl, rfl⟩ | contradiction | (exfalso; omega))
    · obtain ⟨m1, ⟨n1, n2, n3, n4, n5⟩, m3, m4, m5, m6, m7, m8, m9, m10, m11, m12⟩ := id m
      refine ⟨eU u 33 0 0, Cal.of (by decide +kernel) (Nat.le_of_ble_eq_true rfl) ?_, Fr.rf, fun _ _ _ => rfl⟩
      apply tX8_piece_no_0 u a b i what m1 (by omega) <;> (intros; first | with_reducible exact ⟨rfl, rfl⟩ | contradiction | (exfalso; omega))
  · by_cases c : 0 ≤ a ∧ a ≤ 9999 ∧ 1 ≤ b ∧ b ≤ 9999
    · rw [tt_0 o2 o3 c] at hpt
      have hbb := bb_c (b := b) (by omega)
      have fb1 := f_b (a * (w 4 1 + w 4 3)) (b := b) (by omega)
      have fb2 := f_b (a * (w 4 0 + w 4 2)) (b := b) (by omega)
      have hac := ac_b hH
      have hs : sup 14 10 (sT (gC w) (a * (w 4 1 + w 4 3) / b) (a * (w 4 0 + w 4 2) / b)) := sT_sup gC_in b2 b4 (Int.ediv_nonneg (Int.mul_nonneg (by omega) (by omega)) (by omega)) (Int.ediv_nonneg (Int.mul_nonneg (by omega) (by omega)) (by omega))
      obtain ⟨hn, hn2⟩ := npF_sup hs
      generalize eN : npF (sT (gC w) (a * (w 4 1 + w 4 3) / b) (a * (w 4 0 + w 4 2) / b)) = N at *
      by_cases c1 : 0 ≤ i ∧ (what = 0 ∨ what = 1)
      · obtain ⟨w1, a1, a2⟩ := y_X4_areaOfPart w a b i (by omega) hH (by omega) (by omega) hn
        by_cases c2 : i < N
        · rw [if_pos c2] at a1
          have hne : ∃ x y, pc (itr (sT (gC w) (a * (w 4 1 + w 4 3) / b) (a * (w 4 0 + w 4 2) / b)) i.toNat) x y := by
            obtain ⟨x, y, q⟩ := hn.1 i.toNat (by omega)
            obtain ⟨x', y', q'⟩ := isMn_ex (sup_itr hs i.toNat) q
            exact ⟨x', y', x', y', q', fun C h _ => h⟩
          have hsp : sup 14 10 (pc (itr (sT (gC w) (a * (w 4 1 + w 4 3) / b) (a * (w 4 0 + w 4 2) / b)) i.toNat)) := fun x y q => sup_itr hs i.toNat x y (pc_in q)
          have hpos := arF_pos hsp (q := b) (f := a * (w 4 1 + w 4 3) % b) (g := a * (w 4 0 + w 4 2) % b) (by omega) (by omega) hne
          have har := arF_b (pc (itr (sT (gC w) (a * (w 4 1 + w 4 3) / b) (a * (w 4 0 + w 4 2) / b)) i.toNat)) (q := b) (f := a * (w 4 1 + w 4 3) % b) (g := a * (w 4 0 + w 4 2) % b) (by omega) (by omega) (by omega)
          generalize eAR : arF (pc (itr (sT (gC w) (a * (w 4 1 + w 4 3) / b) (a * (w 4 0 + w 4 2) / b)) i.toNat)) b (a * (w 4 1 + w 4 3) % b) (a * (w 4 0 + w 4 2) % b) = AR at *
          refine step_q (r := (1, if what = 0 then rdA AR (b * b) else rdB AR (b * b))) (v := 0) hI (by decide) ⟨eU (eU w1 32 0 (rdA AR (b * b))) 32 1 (rdB AR (b * b)), Cal.of (by decide +kernel) (Nat.le_of_ble_eq_true rfl) ?_, ((a2.mono (by decide)).put (by decide)).put (by decide), CA_fr (S := [25, 27, 32]) (((a2.mono (by decide)).put (by decide)).put (by decide)) (by decide) hC⟩ (fun u m => ?_)
          · apply tX7_piece_0 w a b i what hB (tt := 0) (by decide) hpt (w1 := w1) (ar := AR) hi hw ha hb (bb_b hb) (fun _ => hbb) (by omega) (fun _ _ => a1)
            · intro z; exfalso; omega
            · intro _ _ _ _
              refine ⟨?_, rfl⟩
              rw [part_32]
            all_goals (intros; first | with_reducible exact ⟨rfl, rfl⟩ | contradiction | (exfalso; omega))
          · obtain ⟨m1, ⟨n1, n2, n3, n4, n5⟩, m3, m4, m5, m6, m7, m8, m9, m10, m11, m12⟩ := id m
            obtain ⟨u1, sX, iX, sY, iY, n', z1, z2⟩ := y_X8_lays (eU u 33 0 0) a b m.z.1 (m.z.2.2.2.2.2.2.2.1 hH) (by omega) (by omega)
            have e := z_mX m.z a b
            have z4 := z2.2.2.2.2.2.2.1
            rw [m.z.2.2.1, e.1, e.2.2.1] at z4
            have en : n' = N := isNp_one z4 hn
            have en2 : u1 33 44 = (N : Int) := by rw [z2.2.2.2.2.2.2.2.1, en]
            have z3 := (y_X8_pieceL m.z.1 (m.z.2.2.2.2.2.2.2.1 hH) (by omega) (by omega) z2 (by omega) what c1.2 i.toNat (by omega)).2
            rw [m.z.2.2.1, e.1, e.2.1, e.2.2.1, e.2.2.2, eAR, Int.toNat_of_nonneg c1.1] at z3
            refine ⟨u1, Cal.of (by decide +kernel) (Nat.le_of_ble_eq_true rfl) ?_, z2.1.q.1, z2.1.q.2⟩
            apply tX8_piece_0 u a b i what (w1 := u1) m1 ha hb hw hi (by omega) (fun _ => z1)
            · intro z; exfalso; omega
            · intro _ z; exfalso; omega
            · intro _ _ _ _ _; exact z3
            · intro _ _ _ _ z; exfalso; omega
            · intro _ _ _ z; exact absurd c z
            · intro _ _ z; exfalso; omega
        · rw [if_neg c2] at a1
          refine step_q (r := (1, -1)) (v := 1) hI (by decide) ⟨w1, Cal.of (by decide +kernel) (Nat.le_of_ble_eq_true rfl) ?_, a2.mono (by decide), CA_fr a2 (by decide) hC⟩ (fun u m => ?_)
          · apply tX7_piece_0 w a b i what hB (tt := 0) (by decide) hpt (w1 := w1) (ar := 0) hi hw ha hb (bb_b hb) (fun _ => hbb) (by decide) (fun _ _ => a1) <;> (intros; first | with_reducible exact ⟨rfl, rfl⟩ | contradiction | (exfalso; omega))
          · obtain ⟨m1, ⟨n1, n2, n3, n4, n5⟩, m3, m4, m5, m6, m7, m8, m9, m10, m11, m12⟩ := id m
            obtain ⟨u1, sX, iX, sY, iY, n', z1, z2⟩ := y_X8_lays (eU u 33 0 0) a b m.z.1 (m.z.2.2.2.2.2.2.2.1 hH) (by omega) (by omega)
            have e := z_mX m.z a b
            have z4 := z2.2.2.2.2.2.2.1
            rw [m.z.2.2.1, e.1, e.2.2.1] at z4
            have en : n' = N := isNp_one z4 hn
            have en2 : u1 33 44 = (N : Int) := by rw [z2.2.2.2.2.2.2.2.1, en]
            refine ⟨u1, Cal.of (by decide +kernel) (Nat.le_of_ble_eq_true rfl) ?_, z2.1.q.1, z2.1.q.2⟩
            apply tX8_piece_0 u a b i what (w1 := u1) m1 ha hb hw hi (by omega) (fun _ => z1) <;> (intros; first | with_reducible exact ⟨rfl, rfl⟩ | contradiction | (exfalso; omega))
      · refine step_q (r := (1, -1)) (v := 1) hI (by decide) ?_ (fun u m => ?_)
        · by_cases c3 : 0 ≤ i
          · obtain ⟨w1, a1, a2⟩ := y_X4_areaOfPart w a b i (by omega) hH (by omega) (by omega) hn
            have har := arF_b (pc (itr (sT (gC w) (a * (w 4 1 + w 4 3) / b) (a * (w 4 0 + w 4 2) / b)) i.toNat)) (q := b) (f := a * (w 4 1 + w 4 3) % b) (g := a * (w 4 0 + w 4 2) % b) (by omega) (by omega) (by omega)
            generalize eAR : (if i < N then arF (pc (itr (sT (gC w) (a * (w 4 1 + w 4 3) / b) (a * (w 4 0 + w 4 2) / b)) i.toNat)) b (a * (w 4 1 + w 4 3) % b) (a * (w 4 0 + w 4 2) % b) else 0) = AR at *
            have har2 : 0 ≤ AR ∧ AR < 4611686018427387904 := by rw [← eAR]; split <;> omega
            exact ⟨w, Cal.of (by decide +kernel) (Nat.le_of_ble_eq_true rfl) (by apply tX7_piece_0 w a b i what hB (tt := 0) (by decide) hpt (w1 := w1) (ar := AR) hi hw ha hb (bb_b hb) (fun _ => hbb) har2 (fun _ _ => a1) <;> (intros; first | with_reducible exact ⟨rfl, rfl⟩ | contradiction | (exfalso; omega))), Fr.rf, hC⟩
          · exact ⟨w, Cal.of (by decide +kernel) (Nat.le_of_ble_eq_true rfl) (by apply tX7_piece_0 w a b i what hB (tt := 0) (by decide) hpt (w1 := w) (ar := 0) hi hw ha hb (bb_b hb) (fun _ => hbb) (by decide) (fun _ q => absurd q c3) <;> (intros; first | with_reducible exact ⟨rfl, rfl⟩ | contradiction | (exfalso; omega))), Fr.rf, hC⟩
        · obtain ⟨m1, ⟨n1, n2, n3, n4, n5⟩, m3, m4, m5, m6, m7, m8, m9, m10, m11, m12⟩ := id m
          obtain ⟨u1, sX, iX, sY, iY, n', z1, z2⟩ := y_X8_lays (eU u 33 0 0) a b m.z.1 (m.z.2.2.2.2.2.2.2.1 hH) (by omega) (by omega)
          have e := z_mX m.z a b
          have z4 := z2.2.2.2.2.2.2.1
          rw [m.z.2.2.1, e.1, e.2.2.1] at z4
          have en : n' = N := isNp_one z4 hn
          have en2 : u1 33 44 = (N : Int) := by rw [z2.2.2.2.2.2.2.2.1, en]
          refine ⟨eU u 33 0 0, Cal.of (by decide +kernel) (Nat.le_of_ble_eq_true rfl) ?_, Fr.rf, fun _ _ _ => rfl⟩
          apply tX8_piece_0 u a b i what (w1 := u1) m1 ha hb hw hi (by omega) (fun _ => z1) <;> (intros; first | with_reducible exact ⟨rfl, rfl⟩ | contradiction | (exfalso; omega))
    · rw [tt_2 o2 o3 c] at hpt
      by_cases c1 : 0 ≤ i ∧ (what = 0 ∨ what = 1)
      · refine step_q (r := (1, -1)) (v := 2) hI (by decide) ⟨w, Cal.of (by decide +kernel) (Nat.le_of_ble_eq_true rfl) ?_, Fr.rf, hC⟩ (fun u m => ?_)
        · apply tX7_piece_0 w a b i what hB (tt := 2) (by decide) hpt (w1 := w) (ar := 0) hi hw ha hb (bb_b hb) (fun q => absurd q (by decide)) (by decide) (fun q => absurd q (by decide)) <;> (intros; first | with_reducible exact ⟨rfl, rfl⟩ | contradiction | (exfalso; omega))
        · obtain ⟨m1, ⟨n1, n2, n3, n4, n5⟩, m3, m4, m5, m6, m7, m8, m9, m10, m11, m12⟩ := id m
          refine ⟨eU u 33 0 0, Cal.of (by decide +kernel) (Nat.le_of_ble_eq_true rfl) ?_, Fr.rf, fun _ _ _ => rfl⟩
          apply tX8_piece_0 u a b i what (w1 := eU u 33 44 0) m1 ha hb hw hi (by rw [eU_get, if_pos rfl]; decide) (fun q => absurd q c) <;> (intros; first | with_reducible exact ⟨rfl, rfl⟩ | contradiction | (exfalso; omega))
      · refine step_q (r := (1, -1)) (v := 1) hI (by decide) ⟨w, Cal.of (by decide +kernel) (Nat.le_of_ble_eq_true rfl) ?_, Fr.rf, hC⟩ (fun u m => ?_)
        · apply tX7_piece_0 w a b i what hB (tt := 2) (by decide) hpt (w1 := w) (ar := 0) hi hw ha hb (bb_b hb) (fun q => absurd q (by decide)) (by decide) (fun q => absurd q (by decide)) <;> (intros; first | with_reducible exact ⟨rfl, rfl⟩ | contradiction | (exfalso; omega))
        · obtain ⟨m1, ⟨n1, n2, n3, n4, n5⟩, m3, m4, m5, m6, m7, m8, m9, m10, m11, m12⟩ := id m
          refine ⟨eU u 33 0 0, Cal.of (by decide +kernel) (Nat.le_of_ble_eq_true rfl) ?_, Fr.rf, fun _ _ _ => rfl⟩
          apply tX8_piece_0 u a b i what (w1 := eU u 33 44 0) m1 ha hb hw hi (by rw [eU_get, if_pos rfl]; decide) (fun q => absurd q c) <;> (intros; first | with_reducible exact ⟨rfl, rfl⟩ | contradiction | (exfalso; omega))
