theorem evT_b {ac dn : Int} (ha : 1 ≤ ac ∧ ac ≤ 18) (hd : 1 ≤ dn ∧ dn ≤ 18) (k : Nat) (hk : k < 24) : 0 ≤ evT ac dn (k + 1) ∧ evT ac dn (k + 1) ≤ 100000 := by
  have l := (ev_le ac dn k).1
  have i := ev_inv ha.1 hd.1 k
  have j := ev_inv ha.1 hd.1 (k + 1)
  have h0 : 0 ≤ (evA ac dn (k + 1)).1 * dn := Int.mul_nonneg j.1.1 (by omega)
  refine ⟨by omega, ?_⟩
  rw [evT]
  have h1 : ((evA ac dn k).1 + 1) * dn ≤ 30 * 18 := Int.mul_le_mul (by omega) hd.2 (by omega) (by omega)
  omega
theorem acdn_b {w : eW} (hH : HH w) : 1 ≤ (w 4 1 + w 4 3) * (w 4 0 + w 4 2) ∧ (w 4 1 + w 4 3) * (w 4 0 + w 4 2) ≤ 1000 := by
  have h := ac_b hH
  have h1 := Int.mul_le_mul (show (1 : Int) ≤ w 4 1 + w 4 3 by omega) (show (1 : Int) ≤ w 4 0 + w 4 2 by omega) (by omega) (by omega)
  have h2 := Int.mul_le_mul (show w 4 1 + w 4 3 ≤ 18 by omega) (show w 4 0 + w 4 2 ≤ 18 by omega) (by omega) (by omega)
  omega
theorem y_events (w : eW) (hH : HH w) (hW : 1 ≤ w 2 0 ∧ 1 ≤ w 2 1) (hC : CA w) : ∃ w1, Cal mX4_findEvents [eR 24] w none w1 ∧ Fr [24, 25, 26, 27, 28, 29, 30, 31] w w1 ∧ CA w1 ∧ w1 24 8 = evN (gC w) (w 4 1 + w 4 3) (w 4 0 + w 4 2) 24 ∧ evR (gC w) (w 4 1 + w 4 3) (w 4 0 + w 4 2) (w1 30) 24 := by
  obtain ⟨w1, a1, a2, a3⟩ := y_X4_findEvents w hH hW hC.2.2.2.2
  have q1 := a3.2.1
  have q2 := a3.2.2
  rw [gC_fr a2 (by decide), a2 4 (by decide)] at q1 q2
  exact ⟨w1, a1, a2, CA_events a2 a3 hC, q1, q2⟩
theorem z_events {w u : eW} (m : MZ w u) (hH : HH w) (hW : 1 ≤ w 2 0 ∧ 1 ≤ w 2 1) : ∃ u1, Cal mX8_laysEvents [eR 33] (eU u 33 0 0) none u1 ∧ (Fr [33, 41, 42, 43, 44, 45, 46, 47, 48, 49, 50, 51, 52, 53, 54, 55, 56, 57, 58, 59, 60] (eU u 33 0 0) u1 ∧ ∀ i, 3 ≤ i → i ≤ 28 → u1 33 i = eU u 33 0 0 33 i) ∧ u1 33 47 = (w 4 1 + w 4 3) * (w 4 0 + w 4 2) ∧ u1 33 55 = evN (gC w) (w 4 1 + w 4 3) (w 4 0 + w 4 2) 24 ∧ evM (gC w) (w 4 1 + w 4 3) (w 4 0 + w 4 2) u1 24 := by
  obtain ⟨u1, a1, a2, a3, a4, a5, a6⟩ := y_X8_laysEvents (eU u 33 0 0) m.z.1 (m.z.2.2.2.2.2.2.2.1 hH) (by rw [m.z.2.1.1]; exact hW.1) (by rw [m.z.2.1.2.1]; exact hW.2)
  rw [m.z.2.2.2.1.1, m.z.2.2.2.1.2] at a4
  rw [m.z.2.2.2.1.1, m.z.2.2.2.1.2, m.z.2.2.1] at a5 a6
  exact ⟨u1, a1, ⟨a2.mono (by decide), fun i h1 h2 => a3 i (by omega)⟩, a4, a5, a6⟩
theorem y_told (w : eW) (k what : Int) (hk : eI k) (hw : 0 ≤ what ∧ what < 5) (hc : 0 ≤ w 24 8 ∧ w 24 8 ≤ 24) : Cal mX4_toldOf [eR 24, (0, k), (0, what)] w (some (0, if 0 ≤ k ∧ k < w 24 8 then w 30 (k * 5 + what) else -2)) w := by
  refine Cal.of (by decide +kernel) (Nat.le_of_ble_eq_true rfl) ?_
  by_cases c : 0 ≤ k ∧ k < w 24 8
  · rw [if_pos c]
    apply tX4_toldOf_0 w k what hk hw hc <;> (intros; first | with_reducible exact ⟨rfl, rfl⟩ | contradiction | (exfalso; omega))
  · rw [if_neg c]
    apply tX4_toldOf_0 w k what hk hw hc <;> (intros; first | with_reducible exact ⟨rfl, rfl⟩ | contradiction | (exfalso; omega))
theorem s_event (i what : Int) (hi : eI i) (hw : eI what) : ST 0 mX7_event mX8_event [(0, i), (0, what)] := by
  intro w hI
  obtain ⟨hB, hM, hS, hO, -, hT, -, hC⟩ := id hI
  obtain ⟨⟨b1, b2, b3, b4, b5, b6⟩, b7, b8, b9⟩ := id hB
  rcases hO with ⟨o1, o2, o3, o4, o5⟩ | ⟨o1, o2, o3, hH, hmk, hne⟩
  · refine step_q (r := (0, -1)) (v := 1) hI (by decide) ⟨w, Cal.of (by decide +kernel) (Nat.le_of_ble_eq_true rfl) ?_, Fr.rf, hC⟩ (fun u m => ?_)
    · apply tX7_event_0 w i what hB (w1 := w) (vv := 0) hi hw <;> (intros; first | with_reducible exact ⟨rfl, rfl⟩ | contradiction | (exfalso; omega))
    · obtain ⟨m1, ⟨n1, n2, n3, n4, n5⟩, m3, m4, m5, m6, m7, m8, m9, m10, m11, m12⟩ := id m
      refine ⟨eU u 33 0 0, Cal.of (by decide +kernel) (Nat.le_of_ble_eq_true rfl) ?_, Fr.rf, fun _ _ _ => rfl⟩
      have e1 : eU (eU u 33 55 0) 33 47 1 33 55 = 0 := by rw [eU_get, if_neg (by decide), eU_get, if_pos rfl]
      have e2 : eU (eU u 33 55 0) 33 47 1 33 47 = 1 := by rw [eU_get, if_pos rfl]
      apply tX8_event_0 u i what m1 (w1 := eU (eU u 33 55 0) 33 47 1) hi hw (by rw [e1]; decide) (by rw [e2]; decide) (by rw [e1]; intro q1 q2; exfalso; omega) (fun q => absurd (n5.trans o1) q) <;> (intros; first | with_reducible exact ⟨rfl, rfl⟩ | contradiction | (exfalso; omega))
  · obtain ⟨w1, a1, a2, a3, a4, a5⟩ := y_events w hH ⟨o2, o3⟩ hC
    have hac := ac_b hH
    have hl := acdn_b hH
    have hn := evN_b (gC w) (w 4 1 + w 4 3) (w 4 0 + w 4 2) (K := 24) (by decide)
    by_cases c1 : 0 ≤ i ∧ 0 ≤ what ∧ what < 5
    · have ht := y_told w1 i what hi c1.2 (by omega)
      by_cases c2 : i < evN (gC w) (w 4 1 + w 4 3) (w 4 0 + w 4 2) 24
      · obtain ⟨k, k1, k2, k3⟩ := ev_find (gC w) (w 4 1 + w 4 3) (w 4 0 + w 4 2) 24 i c1.1 c2
        obtain ⟨r0, r1, r2, r3, r4⟩ := a5 k (by omega) k2
        have hb := evT_b (ac := w 4 1 + w 4 3) (dn := w 4 0 + w 4 2) (by omega) (by omega) k k1
        rw [k3] at r0 r1 r2 r3 r4
        rw [if_pos (by omega)] at ht
        refine step_q (r := (0, w1 30 (i * 5 + what))) (v := 0) hI (by decide) ⟨w1, Cal.of (by decide +kernel) (Nat.le_of_ble_eq_true rfl) ?_, a2.mono (by decide), a3⟩ (fun u m => ?_)
        · apply tX7_event_0 w i what hB (w1 := w1) (vv := w1 30 (i * 5 + what)) hi hw (fun _ => a1) (fun _ _ => ht) <;> (intros; first | with_reducible exact ⟨rfl, rfl⟩ | contradiction | (exfalso; omega))
        · obtain ⟨m1, ⟨n1, n2, n3, n4, n5⟩, m3, m4, m5, m6, m7, m8, m9, m10, m11, m12⟩ := id m
          obtain ⟨u1, z1, z2, z3, z4, z5⟩ := z_events m hH ⟨o2, o3⟩
          obtain ⟨g0, g2, g3, g4⟩ := z5 k (by omega) k2
          rw [k3] at g0 g2 g3 g4
          refine ⟨u1, Cal.of (by decide +kernel) (Nat.le_of_ble_eq_true rfl) ?_, z2.1, z2.2⟩
          have e0 : u1 54 i / gI (u1 54 i) (u1 33 47) = w1 30 (i * 5) := by rw [g0, z3, r0]; rfl
          have e1 : u1 33 47 / gI (u1 54 i) (u1 33 47) = w1 30 (i * 5 + 1) := by rw [g0, z3, r1]; rfl
          have hws : what = 0 ∨ what = 1 ∨ what = 2 ∨ what = 3 ∨ what = 4 := by omega
          rcases hws with q | q | q | q | q <;> subst q
          · rw [Int.add_zero, ← e0]
            apply tX8_event_0 u i 0 m1 (w1 := u1) hi hw (by omega) (by omega) (fun _ _ => by omega) (fun _ => z1) <;> (intros; first | with_reducible exact ⟨rfl, rfl⟩ | contradiction | (exfalso; omega))
          · rw [← e1]
            apply tX8_event_0 u i 1 m1 (w1 := u1) hi hw (by omega) (by omega) (fun _ _ => by omega) (fun _ => z1) <;> (intros; first | with_reducible exact ⟨rfl, rfl⟩ | contradiction | (exfalso; omega))
          · rw [r2, ← g2]
            apply tX8_event_0 u i 2 m1 (w1 := u1) hi hw (by omega) (by omega) (fun _ _ => by omega) (fun _ => z1) <;> (intros; first | with_reducible exact ⟨rfl, rfl⟩ | contradiction | (exfalso; omega))
          · rw [r3, ← g3]
            apply tX8_event_0 u i 3 m1 (w1 := u1) hi hw (by omega) (by omega) (fun _ _ => by omega) (fun _ => z1) <;> (intros; first | with_reducible exact ⟨rfl, rfl⟩ | contradiction | (exfalso; omega))
          · rw [r4, ← g4]
            apply tX8_event_0 u i 4 m1 (w1 := u1) hi hw (by omega) (by omega) (fun _ _ => by omega) (fun _ => z1) <;> (intros; first | with_reducible exact ⟨rfl, rfl⟩ | contradiction | (exfalso; omega))
      · rw [if_neg (by omega)] at ht
        refine step_q (r := (0, -2)) (v := 0) hI (by decide) ⟨w1, Cal.of (by decide +kernel) (Nat.le_of_ble_eq_true rfl) ?_, a2.mono (by decide), a3⟩ (fun u m => ?_)
        · apply tX7_event_0 w i what hB (w1 := w1) (vv := -2) hi hw (fun _ => a1) (fun _ _ => ht) <;> (intros; first | with_reducible exact ⟨rfl, rfl⟩ | contradiction | (exfalso; omega))
        · obtain ⟨m1, ⟨n1, n2, n3, n4, n5⟩, m3, m4, m5, m6, m7, m8, m9, m10, m11, m12⟩ := id m
          obtain ⟨u1, z1, z2, z3, z4, z5⟩ := z_events m hH ⟨o2, o3⟩
          refine ⟨u1, Cal.of (by decide +kernel) (Nat.le_of_ble_eq_true rfl) ?_, z2.1, z2.2⟩
          apply tX8_event_0 u i what m1 (w1 := u1) hi hw (by omega) (by omega) (fun _ _ => by omega) (fun _ => z1) <;> (intros; first | with_reducible exact ⟨rfl, rfl⟩ | contradiction | (exfalso; omega))
    · refine step_q (r := (0, -1)) (v := 1) hI (by decide) ⟨w, Cal.of (by decide +kernel) (Nat.le_of_ble_eq_true rfl) ?_, Fr.rf, hC⟩ (fun u m => ?_)
      · apply tX7_event_0 w i what hB (w1 := w1) (vv := 0) hi hw (fun _ => a1) (fun _ q => absurd q c1) <;> (intros; first | with_reducible exact ⟨rfl, rfl⟩ | contradiction | (exfalso; omega))
      · obtain ⟨m1, ⟨n1, n2, n3, n4, n5⟩, m3, m4, m5, m6, m7, m8, m9, m10, m11, m12⟩ := id m
        obtain ⟨u1, z1, z2, z3, z4, z5⟩ := z_events m hH ⟨o2, o3⟩
        refine ⟨eU u 33 0 0, Cal.of (by decide +kernel) (Nat.le_of_ble_eq_true rfl) ?_, Fr.rf, fun _ _ _ => rfl⟩
        apply tX8_event_0 u i what m1 (w1 := u1) hi hw (by omega) (by omega) (fun q1 q2 => by
          obtain ⟨k, k1, k2, k3⟩ := ev_find (gC w) (w 4 1 + w 4 3) (w 4 0 + w 4 2) 24 i (by omega) (by rw [z4] at q2; exact q2)
          have hb := evT_b (ac := w 4 1 + w 4 3) (dn := w 4 0 + w 4 2) (by omega) (by omega) k k1
          have g0 := (z5 k (by omega) k2).1
          rw [k3] at g0
          omega) (fun _ => z1) <;> (intros; first | with_reducible exact ⟨rfl, rfl⟩ | contradiction | (exfalso; omega))
/-- a house that stands has an event: the last piece's end -/
theorem ev_some {w : eW} (hH : HH w) (hne : ∃ x y, insC w x y) : 1 ≤ evN (gC w) (w 4 1 + w 4 3) (w 4 0 + w 4 2) 24 := by
  obtain ⟨⟨b1, b2, b3, b4, b5, b6⟩, b7, b8, b9⟩ := id hH.1
  have hac := ac_b hH
  obtain ⟨x, y, hi⟩ := hne
  have ev := fun j => ev_inv (ac := w 4 1 + w 4 3) (dn := w 4 0 + w 4 2) (by omega) (by omega) j
  have h0 : ∃ x y, stS (gC w) (w 4 1 + w 4 3) (w 4 0 + w 4 2) 0 x y := by
    refine ⟨x, y, fun x' y' h1 h2 h3 h4 => ?_⟩
    have e1 : x' = x := by have : (evA (w 4 1 + w 4 3) (w 4 0 + w 4 2) 0).1 = 0 := rfl; omega
    have e2 : y' = y := by have : (evA (w 4 1 + w 4 3) (w 4 0 + w 4 2) 0).2 = 0 := rfl; omega
    rw [e1, e2]
    exact gC_1.mpr hi
  have h24 : ¬ ∃ x y, stS (gC w) (w 4 1 + w 4 3) (w 4 0 + w 4 2) 24 x y := by
    have e := ev 24
    unfold stS
    rw [sT_none gC_in e.1.1 e.1.2 (by omega)]
    rintro ⟨x, y, z⟩
    exact z
  have hl : ∃ k : Nat, k < 24 ∧ (∃ x y, stS (gC w) (w 4 1 + w 4 3) (w 4 0 + w 4 2) k x y) ∧ ¬ ∃ x y, stS (gC w) (w 4 1 + w 4 3) (w 4 0 + w 4 2) (k + 1) x y := by
    have key : ∀ n : Nat, (∃ x y, stS (gC w) (w 4 1 + w 4 3) (w 4 0 + w 4 2) n x y) ∨ ∃ k : Nat, k < n ∧ (∃ x y, stS (gC w) (w 4 1 + w 4 3) (w 4 0 + w 4 2) k x y) ∧ ¬ ∃ x y, stS (gC w) (w 4 1 + w 4 3) (w 4 0 + w 4 2) (k + 1) x y := by
      intro n
      induction n with
      | zero => exact Or.inl h0
      | succ n ih =>
        rcases ih with q | ⟨k, k1, k2⟩
        · by_cases c : ∃ x y, stS (gC w) (w 4 1 + w 4 3) (w 4 0 + w 4 2) (n + 1) x y
          · exact Or.inl c
          · exact Or.inr ⟨n, by omega, q, c⟩
        · exact Or.inr ⟨k, by omega, k2⟩
    rcases key 24 with q | q
    · exact absurd q h24
    · exact q
  obtain ⟨k, k1, k2, k3⟩ := hl
  have hs : sup 14 10 (stS (gC w) (w 4 1 + w 4 3) (w 4 0 + w 4 2) k) := sT_sup gC_in b2 b4 (ev k).1.1 (ev k).1.2
  obtain ⟨p1, p2⟩ := npF_sup hs
  have hp : 1 ≤ npF (stS (gC w) (w 4 1 + w 4 3) (w 4 0 + w 4 2) k) := by
    rcases Nat.eq_zero_or_pos (npF (stS (gC w) (w 4 1 + w 4 3) (w 4 0 + w 4 2) k)) with q | q
    · rw [q] at p1
      obtain ⟨x, y, z⟩ := k2
      exact absurd z (p1.2 x y)
    · exact q
  have he : EVk (gC w) (w 4 1 + w 4 3) (w 4 0 + w 4 2) k := by
    unfold EVk evE evP
    have e1 : ∀ c, 0 ≤ c → c < (npF (stS (gC w) (w 4 1 + w 4 3) (w 4 0 + w 4 2) k) : Int) → bI (chN (stS (gC w) (w 4 1 + w 4 3) (w 4 0 + w 4 2) k) (stS (gC w) (w 4 1 + w 4 3) (w 4 0 + w 4 2) (k + 1)) c = 0) = 1 := by
      intro c _ _
      unfold chN
      rw [NQ_none (fun x y z => k3 ⟨x, y, z⟩), bI_1 rfl]
    rw [sumI_congr (g := fun _ => 1) e1, sumI_one _ (by omega)]
    have := sumI_nn (f := fun c => bI (1 < chN (stS (gC w) (w 4 1 + w 4 3) (w 4 0 + w 4 2) k) (stS (gC w) (w 4 1 + w 4 3) (w 4 0 + w 4 2) (k + 1)) c)) (a := 0) (b := (npF (stS (gC w) (w 4 1 + w 4 3) (w 4 0 + w 4 2) k) : Int)) (fun i _ _ => (bI_01 _).1)
    omega
  have h1 := evN_lt (gC w) (w 4 1 + w 4 3) (w 4 0 + w 4 2) k1 he
  have h2 := evN_b (gC w) (w 4 1 + w 4 3) (w 4 0 + w 4 2) (K := (k : Int)) (by omega)
  have h3 : ((24 : Nat) : Int) = 24 := rfl
  rw [h3] at h1
  omega
theorem s_top (what : Int) (hw : eI what) : ST 0 mX7_top mX8_top [(0, what)] := by
  intro w hI
  obtain ⟨hB, hM, hS, hO, -, hT, -, hC⟩ := id hI
  obtain ⟨⟨b1, b2, b3, b4, b5, b6⟩, b7, b8, b9⟩ := id hB
  rcases hO with ⟨o1, o2, o3, o4, o5⟩ | ⟨o1, o2, o3, hH, hmk, hne⟩
  · refine step_q (r := (0, -1)) (v := 1) hI (by decide) ⟨w, Cal.of (by decide +kernel) (Nat.le_of_ble_eq_true rfl) ?_, Fr.rf, hC⟩ (fun u m => ?_)
    · apply tX7_top_0 w what hB (w1 := w) (vv := 0) hw <;> (intros; first | with_reducible exact ⟨rfl, rfl⟩ | contradiction | (exfalso; omega))
    · obtain ⟨m1, ⟨n1, n2, n3, n4, n5⟩, m3, m4, m5, m6, m7, m8, m9, m10, m11, m12⟩ := id m
      refine ⟨eU u 33 0 0, Cal.of (by decide +kernel) (Nat.le_of_ble_eq_true rfl) ?_, Fr.rf, fun _ _ _ => rfl⟩
      have e1 : eU (eU (eU u 33 55 1) 33 47 1) 54 0 0 33 55 = 1 := by rw [eU_ne (by decide), eU_get, if_neg (by decide), eU_get, if_pos rfl]
      have e2 : eU (eU (eU u 33 55 1) 33 47 1) 54 0 0 33 47 = 1 := by rw [eU_ne (by decide), eU_get, if_pos rfl]
      have e3 : eU (eU (eU u 33 55 1) 33 47 1) 54 0 0 54 (1 - 1) = 0 := by rw [eU_get, if_pos (by decide)]
      apply tX8_top_0 u what m1 (w1 := eU (eU (eU u 33 55 1) 33 47 1) 54 0 0) hw (by rw [e1]; decide) (by rw [e2]; decide) (by rw [e1, e3]; decide) (fun q => absurd (n5.trans o1) q) <;> (intros; first | with_reducible exact ⟨rfl, rfl⟩ | contradiction | (exfalso; omega))
  · obtain ⟨w1, a1, a2, a3, a4, a5⟩ := y_events w hH ⟨o2, o3⟩ hC
    have hac := ac_b hH
    have hl := acdn_b hH
    have hn := evN_b (gC w) (w 4 1 + w 4 3) (w 4 0 + w 4 2) (K := 24) (by decide)
    have hs := ev_some hH hne
    obtain ⟨k, k1, k2, k3⟩ := ev_find (gC w) (w 4 1 + w 4 3) (w 4 0 + w 4 2) 24 (evN (gC w) (w 4 1 + w 4 3) (w 4 0 + w 4 2) 24 - 1) (by omega) (Int.sub_lt_self _ (by decide))
    have hb := evT_b (ac := w 4 1 + w 4 3) (dn := w 4 0 + w 4 2) (by omega) (by omega) k k1
    by_cases c1 : what = 0 ∨ what = 1
    · have ht := y_told w1 (w1 24 8 - 1) what (by omega) (by omega) (by omega)
      rw [if_pos (by omega)] at ht
      obtain ⟨r0, r1, -⟩ := a5 k (by omega) k2
      rw [k3, ← a4] at r0 r1
      refine step_q (r := (0, w1 30 ((w1 24 8 - 1) * 5 + what))) (v := 0) hI (by decide) ⟨w1, Cal.of (by decide +kernel) (Nat.le_of_ble_eq_true rfl) ?_, a2.mono (by decide), a3⟩ (fun u m => ?_)
      · apply tX7_top_0 w what hB (w1 := w1) (vv := w1 30 ((w1 24 8 - 1) * 5 + what)) hw (fun _ => a1) (fun _ _ => ht) <;> (intros; first | with_reducible exact ⟨rfl, rfl⟩ | contradiction | (exfalso; omega))
      · obtain ⟨m1, ⟨n1, n2, n3, n4, n5⟩, m3, m4, m5, m6, m7, m8, m9, m10, m11, m12⟩ := id m
        obtain ⟨u1, z1, z2, z3, z4, z5⟩ := z_events m hH ⟨o2, o3⟩
        have g0 := (z5 k (by omega) k2).1
        rw [k3, ← z4] at g0
        refine ⟨u1, Cal.of (by decide +kernel) (Nat.le_of_ble_eq_true rfl) ?_, z2.1, z2.2⟩
        have e0 : u1 54 (u1 33 55 - 1) / gI (u1 54 (u1 33 55 - 1)) (u1 33 47) = w1 30 ((w1 24 8 - 1) * 5) := by rw [g0, z3, r0]; rfl
        have e1 : u1 33 47 / gI (u1 54 (u1 33 55 - 1)) (u1 33 47) = w1 30 ((w1 24 8 - 1) * 5 + 1) := by rw [g0, z3, r1]; rfl
        rcases c1 with q | q <;> subst q
        · rw [Int.add_zero, ← e0]
          apply tX8_top_0 u 0 m1 (w1 := u1) hw (by omega) (by omega) (by omega) (fun _ => z1) <;> (intros; first | with_reducible exact ⟨rfl, rfl⟩ | contradiction | (exfalso; omega))
        · rw [← e1]
          apply tX8_top_0 u 1 m1 (w1 := u1) hw (by omega) (by omega) (by omega) (fun _ => z1) <;> (intros; first | with_reducible exact ⟨rfl, rfl⟩ | contradiction | (exfalso; omega))
    · refine step_q (r := (0, -1)) (v := 1) hI (by decide) ⟨w, Cal.of (by decide +kernel) (Nat.le_of_ble_eq_true rfl) ?_, Fr.rf, hC⟩ (fun u m => ?_)
      · apply tX7_top_0 w what hB (w1 := w1) (vv := 0) hw (fun _ => a1) (fun _ q => absurd q c1) <;> (intros; first | with_reducible exact ⟨rfl, rfl⟩ | contradiction | (exfalso; omega))
      · obtain ⟨m1, ⟨n1, n2, n3, n4, n5⟩, m3, m4, m5, m6, m7, m8, m9, m10, m11, m12⟩ := id m
        obtain ⟨u1, z1, z2, z3, z4, z5⟩ := z_events m hH ⟨o2, o3⟩
        have g0 := (z5 k (by omega) k2).1
        rw [k3, ← z4] at g0
        refine ⟨eU u 33 0 0, Cal.of (by decide +kernel) (Nat.le_of_ble_eq_true rfl) ?_, Fr.rf, fun _ _ _ => rfl⟩
        apply tX8_top_0 u what m1 (w1 := u1) hw (by omega) (by omega) (by omega) (fun _ => z1) <;> (intros; first | with_reducible exact ⟨rfl, rfl⟩ | contradiction | (exfalso; omega))
