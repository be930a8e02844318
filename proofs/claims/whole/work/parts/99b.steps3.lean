theorem FrL.q {z u : eW} (h : FrL z u) : Fr [33, 41, 42, 43, 44, 45, 46, 47, 48, 49, 50, 51, 52, 53, 54, 55, 56, 57, 58, 59, 60] z u ∧ ∀ i, 3 ≤ i → i ≤ 28 → u 33 i = z 33 i := ⟨h.1.mono (by decide), fun i h1 h2 => h.2 i (by omega) (by omega) (by omega)⟩
theorem y_falls (w : eW) (hH : HH w) (hC : CA w) : ∃ w1, Cal mX5_countFalls [eR 16] w none w1 ∧ Fr [13, 14, 15, 16, 17, 18, 19, 20, 21, 22, 23] w w1 ∧ CA w1 ∧ (∀ s, 0 ≤ s → s < 16 → w1 22 s = ptN (w 2 0) (w 2 1) (fun px py => slG (gC w) (w 2 0) (w 2 1) (qC w) px py = s)) ∧ ∀ k, 0 ≤ k → k < 280 → w1 23 k = ptN (w 2 0) (w 2 1) (fun px py => drG (gC w) (w 2 0) (w 2 1) (qC w) (wallsOf w) px py = k) := by
  obtain ⟨w1, a1, a2, a3, a4, a5⟩ := y_X5_countFalls w hH hC.2.1 hC.2.2.1 hC.1 hC.2.2.2.1
  refine ⟨w1, a1, a2, CA_falls a2 a3 a4 a5 hC, ?_, ?_⟩
  · have q := a5.2.1
    rw [gC_fr a2 (by decide), qC_fr a2 (by decide), a2 2 (by decide)] at q
    exact q
  · have q := a5.2.2
    rw [gC_fr a2 (by decide), qC_fr a2 (by decide), a2 2 (by decide), wallsOf_fr a2 (by decide)] at q
    exact q
theorem s_catches (i : Int) (hi : eI i) : ST 0 mX7_catches mX8_catches [(0, i)] := by
  intro w hI
  obtain ⟨hB, hM, hS, hO, -, hT, -, hC⟩ := id hI
  obtain ⟨⟨b1, b2, b3, b4, b5, b6⟩, b7, b8, b9⟩ := id hB
  have hb := walls_b w hB
  obtain ⟨w1, a1, a2, a3, a4⟩ := y_build w hB hC
  have ec : w1 13 3 = wallsOf w 0 0 := a3.2.1
  rcases hO with ⟨o1, o2, o3, o4, o5⟩ | ⟨o1, o2, o3, hH, hmk, hne⟩
  · have e0 := walls_none w o2 o3
    refine step_q (r := (0, -1)) (v := 1) hI (by decide) ⟨w1, Cal.of (by decide +kernel) (Nat.le_of_ble_eq_true rfl) ?_, a2.mono (by decide), a4⟩ (fun u m => ?_)
    · apply tX7_catches_0 w i hB (w1 := w1) (w2 := w1) (vv := 0) hi (by omega) a1 <;> (intros; first | with_reducible exact ⟨rfl, rfl⟩ | contradiction | (exfalso; omega))
    · refine ⟨eU u 33 0 0, Cal.of (by decide +kernel) (Nat.le_of_ble_eq_true rfl) ?_, Fr.rf, fun _ _ _ => rfl⟩
      apply tX8_catches_0 u i (w1 := eU u 33 0 0) (iw := 0) hi (Or.inl rfl) (z_isWall0 m hB o1 hi) <;> (intros; first | with_reducible exact ⟨rfl, rfl⟩ | contradiction | (exfalso; omega))
  · by_cases c : 0 ≤ i ∧ i < wallsOf w 0 0
    · have hH1 : HH w1 := HH_fr a2 hH (by decide)
      obtain ⟨w2, f1, f2, f3, f4, f5⟩ := y_falls w1 hH1 a4
      have f6 := f5 i c.1 (by omega)
      rw [gC_fr a2 (by decide), qC_fr a2 (by decide), a2 2 (by decide), wallsOf_fr a2 (by decide)] at f6
      have hf : Fr [13, 14, 15, 16, 17, 18, 19, 20, 21, 22, 23] w w2 := (a2.mono (by decide)).tr f2
      refine step_q (r := (0, ptN (w 2 0) (w 2 1) (fun px py => drG (gC w) (w 2 0) (w 2 1) (qC w) (wallsOf w) px py = i))) (v := 0) hI (by decide) ⟨w2, Cal.of (by decide +kernel) (Nat.le_of_ble_eq_true rfl) ?_, hf.mono (by decide), f3⟩ (fun u m => ?_)
      · have e := zX5_caughtBy w2 i hi
        unfold rX5_caughtBy at e
        rw [if_neg (by omega), if_pos (by omega), f6] at e
        apply tX7_catches_0 w i hB (w1 := w1) (w2 := w2) (vv := ptN (w 2 0) (w 2 1) (fun px py => drG (gC w) (w 2 0) (w 2 1) (qC w) (wallsOf w) px py = i)) hi (by omega) a1 (fun _ => f1) (fun _ => e) <;> (intros; first | with_reducible exact ⟨rfl, rfl⟩ | contradiction | (exfalso; omega))
      · obtain ⟨u1, z1, z2, z3⟩ := z_isWall m hB o1 hi
        rw [if_pos c] at z1
        have mz := m.z.fw z2
        refine ⟨u1, Cal.of (by decide +kernel) (Nat.le_of_ble_eq_true rfl) ?_, z2.q.1, z2.q.2⟩
        apply tX8_catches_0 u i (w1 := u1) (iw := 1) hi (Or.inr rfl) z1
        · intro z; exfalso; omega
        · intro _
          have q := y_X8_catchesL u1 i mz.1 (mz.2.2.2.2.2.2.2.1 hH) (by rw [mz.2.2.2.2.1]; exact z3) hi
          rw [mz.dr, mz.2.1.1, mz.2.1.2.1] at q
          exact q
    · refine step_q (r := (0, -1)) (v := 1) hI (by decide) ⟨w1, Cal.of (by decide +kernel) (Nat.le_of_ble_eq_true rfl) ?_, a2.mono (by decide), a4⟩ (fun u m => ?_)
      · apply tX7_catches_0 w i hB (w1 := w1) (w2 := w1) (vv := 0) hi (by omega) a1 <;> (intros; first | with_reducible exact ⟨rfl, rfl⟩ | contradiction | (exfalso; omega))
      · obtain ⟨u1, z1, z2, z3⟩ := z_isWall m hB o1 hi
        rw [if_neg c] at z1
        refine ⟨u1, Cal.of (by decide +kernel) (Nat.le_of_ble_eq_true rfl) ?_, z2.q.1, z2.q.2⟩
        apply tX8_catches_0 u i (w1 := u1) (iw := 0) hi (Or.inl rfl) z1 <;> (intros; first | with_reducible exact ⟨rfl, rfl⟩ | contradiction | (exfalso; omega))
theorem s_faces (set : Int) (hs : eI set) : ST 0 mX7_faces mX8_faces [(0, set)] := by
  intro w hI
  obtain ⟨hB, hM, hS, hO, -, hT, -, hC⟩ := id hI
  obtain ⟨⟨b1, b2, b3, b4, b5, b6⟩, b7, b8, b9⟩ := id hB
  rcases hO with ⟨o1, o2, o3, o4, o5⟩ | ⟨o1, o2, o3, hH, hmk, hne⟩
  · refine step_q (r := (0, -1)) (v := 1) hI (by decide) ⟨w, Cal.of (by decide +kernel) (Nat.le_of_ble_eq_true rfl) ?_, Fr.rf, hC⟩ (fun u m => ?_)
    · apply tX7_faces_0 w set hB (w1 := w) (vv := 0) hs <;> (intros; first | with_reducible exact ⟨rfl, rfl⟩ | contradiction | (exfalso; omega))
    · obtain ⟨m1, ⟨n1, n2, n3, n4, n5⟩, m3, m4, m5, m6, m7, m8, m9, m10, m11, m12⟩ := id m
      refine ⟨eU u 33 0 0, Cal.of (by decide +kernel) (Nat.le_of_ble_eq_true rfl) ?_, Fr.rf, fun _ _ _ => rfl⟩
      apply tX8_faces_0 u set m1 hs <;> (intros; first | with_reducible exact ⟨rfl, rfl⟩ | contradiction | (exfalso; omega))
  · obtain ⟨w2, f1, f2, f3, f4, f5⟩ := y_falls w hH hC
    by_cases c : 0 ≤ set ∧ set < 16
    · have e := zX5_facing w2 set hs
      unfold rX5_facing at e
      rw [if_neg (by omega), if_pos (by omega), f4 set c.1 c.2] at e
      refine step_q (r := (0, ptN (w 2 0) (w 2 1) (fun px py => slG (gC w) (w 2 0) (w 2 1) (qC w) px py = set))) (v := 0) hI (by decide) ⟨w2, Cal.of (by decide +kernel) (Nat.le_of_ble_eq_true rfl) ?_, f2.mono (by decide), f3⟩ (fun u m => ?_)
      · apply tX7_faces_0 w set hB (w1 := w2) (vv := ptN (w 2 0) (w 2 1) (fun px py => slG (gC w) (w 2 0) (w 2 1) (qC w) px py = set)) hs (fun _ => f1) (fun _ _ => e) <;> (intros; first | with_reducible exact ⟨rfl, rfl⟩ | contradiction | (exfalso; omega))
      · obtain ⟨m1, ⟨n1, n2, n3, n4, n5⟩, m3, m4, m5, m6, m7, m8, m9, m10, m11, m12⟩ := id m
        refine ⟨eU u 33 0 0, Cal.of (by decide +kernel) (Nat.le_of_ble_eq_true rfl) ?_, Fr.rf, fun _ _ _ => rfl⟩
        have q := y_X8_facesL (eU u 33 0 0) set m.z.1 (m.z.2.2.2.2.2.2.2.1 hH) hs
        rw [m.z.sl, m.z.2.1.1, m.z.2.1.2.1] at q
        apply tX8_faces_0 u set m1 hs
        · intro z; exfalso; omega
        · intro _ _; exact q
        · intro _ z; exfalso; omega
    · refine step_q (r := (0, -1)) (v := 2) hI (by decide) ⟨w, Cal.of (by decide +kernel) (Nat.le_of_ble_eq_true rfl) ?_, Fr.rf, hC⟩ (fun u m => ?_)
      · apply tX7_faces_0 w set hB (w1 := w2) (vv := 0) hs (fun _ => f1) (fun _ q => absurd q c) <;> (intros; first | with_reducible exact ⟨rfl, rfl⟩ | contradiction | (exfalso; omega))
      · obtain ⟨m1, ⟨n1, n2, n3, n4, n5⟩, m3, m4, m5, m6, m7, m8, m9, m10, m11, m12⟩ := id m
        refine ⟨eU u 33 0 0, Cal.of (by decide +kernel) (Nat.le_of_ble_eq_true rfl) ?_, Fr.rf, fun _ _ _ => rfl⟩
        apply tX8_faces_0 u set m1 hs <;> (intros; first | with_reducible exact ⟨rfl, rfl⟩ | contradiction | (exfalso; omega))
theorem s_rim (side : Int) (hs : eI side) : ST 0 mX7_rim mX8_rim [(0, side)] := by
  intro w hI
  obtain ⟨hB, hM, hS, hO, -, hT, -, hC⟩ := id hI
  obtain ⟨⟨b1, b2, b3, b4, b5, b6⟩, b7, b8, b9⟩ := id hB
  obtain ⟨w1, a1, a2, a3, a4⟩ := y_build w hB hC
  have hB1 : HB w1 := HB_fr a2 hB (by decide)
  have hR : RC w1 (wallsOf w1) := by rw [wallsOf_fr a2 (by decide)]; exact a3
  rcases hO with ⟨o1, o2, o3, o4, o5⟩ | ⟨o1, o2, o3, hH, hmk, hne⟩
  · refine step_q (r := (0, -1)) (v := 1) hI (by decide) ⟨w, Cal.of (by decide +kernel) (Nat.le_of_ble_eq_true rfl) ?_, Fr.rf, hC⟩ (fun u m => ?_)
    · apply tX7_rim_0 w side hB (w1 := w1) (vv := rmI (gC w1) side (w1 2 0) (w1 2 1)) hs a1 (fun q => y_X6_lengthOfSide w1 side hB1 hR q) <;> (intros; first | with_reducible exact ⟨rfl, rfl⟩ | contradiction | (exfalso; omega))
    · obtain ⟨m1, ⟨n1, n2, n3, n4, n5⟩, m3, m4, m5, m6, m7, m8, m9, m10, m11, m12⟩ := id m
      refine ⟨eU u 33 0 0, Cal.of (by decide +kernel) (Nat.le_of_ble_eq_true rfl) ?_, Fr.rf, fun _ _ _ => rfl⟩
      apply tX8_rim_0 u side m1 hs <;> (intros; first | with_reducible exact ⟨rfl, rfl⟩ | contradiction | (exfalso; omega))
  · by_cases c : 0 ≤ side ∧ side < 4
    · have e := y_X6_lengthOfSide w1 side hB1 hR c
      rw [gC_fr a2 (by decide), a2 2 (by decide)] at e
      refine step_q (r := (0, rmI (gC w) side (w 2 0) (w 2 1))) (v := 0) hI (by decide) ⟨w1, Cal.of (by decide +kernel) (Nat.le_of_ble_eq_true rfl) ?_, a2.mono (by decide), a4⟩ (fun u m => ?_)
      · apply tX7_rim_0 w side hB (w1 := w1) (vv := rmI (gC w) side (w 2 0) (w 2 1)) hs a1 (fun q => e) <;> (intros; first | with_reducible exact ⟨rfl, rfl⟩ | contradiction | (exfalso; omega))
      · obtain ⟨m1, ⟨n1, n2, n3, n4, n5⟩, m3, m4, m5, m6, m7, m8, m9, m10, m11, m12⟩ := id m
        have q := y_X8_rimL (eU u 33 0 0) side m.z.1 c
        rw [m.z.2.2.1, m.z.2.1.1, m.z.2.1.2.1] at q
        refine ⟨eU u 33 0 0, Cal.of (by decide +kernel) (Nat.le_of_ble_eq_true rfl) ?_, Fr.rf, fun _ _ _ => rfl⟩
        apply tX8_rim_0 u side m1 hs
        · intro z; exfalso; omega
        · intro _ _; exact q
        · intro _ z; exfalso; omega
    · refine step_q (r := (0, -1)) (v := 1) hI (by decide) ⟨w, Cal.of (by decide +kernel) (Nat.le_of_ble_eq_true rfl) ?_, Fr.rf, hC⟩ (fun u m => ?_)
      · apply tX7_rim_0 w side hB (w1 := w1) (vv := 0) hs a1 (fun q => absurd q c) <;> (intros; first | with_reducible exact ⟨rfl, rfl⟩ | contradiction | (exfalso; omega))
      · obtain ⟨m1, ⟨n1, n2, n3, n4, n5⟩, m3, m4, m5, m6, m7, m8, m9, m10, m11, m12⟩ := id m
        refine ⟨eU u 33 0 0, Cal.of (by decide +kernel) (Nat.le_of_ble_eq_true rfl) ?_, Fr.rf, fun _ _ _ => rfl⟩
        apply tX8_rim_0 u side m1 hs <;> (intros; first | with_reducible exact ⟨rfl, rfl⟩ | contradiction | (exfalso; omega))
theorem s_highest (what : Int) (hw : eI what) : ST 0 mX7_highest mX8_highest [(0, what)] := by
  intro w hI
  obtain ⟨hB, hM, hS, hO, -, hT, -, hC⟩ := id hI
  obtain ⟨⟨b1, b2, b3, b4, b5, b6⟩, b7, b8, b9⟩ := id hB
  rcases hO with ⟨o1, o2, o3, o4, o5⟩ | ⟨o1, o2, o3, hH, hmk, hne⟩
  · refine step_q (r := (0, -1)) (v := 1) hI (by decide) ⟨w, Cal.of (by decide +kernel) (Nat.le_of_ble_eq_true rfl) ?_, Fr.rf, hC⟩ (fun u m => ?_)
    · apply tX7_highest_0 w what hB (w1 := w) (vv := 0) hw <;> (intros; first | with_reducible exact ⟨rfl, rfl⟩ | contradiction | (exfalso; omega))
    · obtain ⟨m1, ⟨n1, n2, n3, n4, n5⟩, m3, m4, m5, m6, m7, m8, m9, m10, m11, m12⟩ := id m
      refine ⟨eU u 33 0 0, Cal.of (by decide +kernel) (Nat.le_of_ble_eq_true rfl) ?_, Fr.rf, fun _ _ _ => rfl⟩
      apply tX8_highest_0 u what m1 hw <;> (intros; first | with_reducible exact ⟨rfl, rfl⟩ | contradiction | (exfalso; omega))
  · by_cases c : what = 0 ∨ what = 1
    · obtain ⟨w1, x, y, a1, a2, a3, a4, a5⟩ := y_X5_highestPlace w what c hH hC.2.1 hC.2.2.1
      refine step_q (r := (0, if what = 0 then x else y)) (v := 0) hI (by decide) ⟨w1, Cal.of (by decide +kernel) (Nat.le_of_ble_eq_true rfl) ?_, a3.mono (by decide), CA_meas a3 a4 a5 hC⟩ (fun u m => ?_)
      · apply tX7_highest_0 w what hB (w1 := w1) (vv := if what = 0 then x else y) hw (fun _ _ => a2) <;> (intros; first | with_reducible exact ⟨rfl, rfl⟩ | contradiction | (exfalso; omega))
      · obtain ⟨m1, ⟨n1, n2, n3, n4, n5⟩, m3, m4, m5, m6, m7, m8, m9, m10, m11, m12⟩ := id m
        obtain ⟨x', y', q1, q2⟩ := y_X8_highestL (eU u 33 0 0) what m.z.1 (m.z.2.2.2.2.2.2.2.1 hH) c
        rw [m.z.ht, m.z.2.1.1, m.z.2.1.2.1] at q1
        obtain ⟨e1, e2⟩ := isHi_one q1 a1
        rw [e1, e2] at q2
        refine ⟨eU u 33 0 0, Cal.of (by decide +kernel) (Nat.le_of_ble_eq_true rfl) ?_, Fr.rf, fun _ _ _ => rfl⟩
        apply tX8_highest_0 u what m1 hw
        · intro z; exfalso; omega
        · intro _ _; exact q2
        · intro _ z; exfalso; omega
    · refine step_q (r := (0, -1)) (v := 1) hI (by decide) ⟨w, Cal.of (by decide +kernel) (Nat.le_of_ble_eq_true rfl) ?_, Fr.rf, hC⟩ (fun u m => ?_)
      · apply tX7_highest_0 w what hB (w1 := w) (vv := 0) hw (fun _ q => absurd q c) <;> (intros; first | with_reducible exact ⟨rfl, rfl⟩ | contradiction | (exfalso; omega))
      · obtain ⟨m1, ⟨n1, n2, n3, n4, n5⟩, m3, m4, m5, m6, m7, m8, m9, m10, m11, m12⟩ := id m
        refine ⟨eU u 33 0 0, Cal.of (by decide +kernel) (Nat.le_of_ble_eq_true rfl) ?_, Fr.rf, fun _ _ _ => rfl⟩
        apply tX8_highest_0 u what m1 hw <;> (intros; first | with_reducible exact ⟨rfl, rfl⟩ | contradiction | (exfalso; omega))
theorem ahP_cong {ht ht' : Int → Int} {n : Int} (h : ∀ k, 0 ≤ k → k < n → ht k = ht' k) {k : Int} (hk : 0 ≤ k ∧ k < n) : ahP ht n k = ahP ht' n k := by
  unfold ahP ahd
  refine sumI_congr (fun o o1 o2 => ?_)
  rw [h o o1 o2, h k hk.1 hk.2]
theorem isRk_cong {ht ht' : Int → Int} {n i f : Int} (h : ∀ k, 0 ≤ k → k < n → ht k = ht' k) (hr : isRk ht n i f) : isRk ht' n i f := by
  obtain ⟨r1, r2, r3, r4⟩ := hr
  refine ⟨r1, r2, by rw [← ahP_cong h ⟨r1, r2⟩]; exact r3, fun j j1 j2 => ?_⟩
  rw [← ahP_cong h ⟨by omega, j2⟩]
  exact r4 j j1 j2
theorem s_ranked (i : Int) (hi : eI i) : ST 0 mX7_ranked mX8_ranked [(0, i)] := by
  intro w hI
  obtain ⟨hB, hM, hS, hO, -, hT, -, hC⟩ := id hI
  obtain ⟨⟨b1, b2, b3, b4, b5, b6⟩, b7, b8, b9⟩ := id hB
  by_cases c : 0 ≤ i ∧ i < w 2 2
  · rcases hO with ⟨o1, o2, o3, o4, o5⟩ | ⟨o1, o2, o3, hH, hmk, hne⟩
    · exfalso; omega
    obtain ⟨f, w1, a1, a2, a3⟩ := y_X7_rankedL w i hH hmk hC.2.1 c
    refine step_q (r := (0, f)) (v := 0) hI (by decide) ⟨w1, Cal.of (by decide +kernel) (Nat.le_of_ble_eq_true rfl) ?_, a2.1.mono (by decide), CA_height a2 hC⟩ (fun u m => ?_)
    · apply tX7_ranked_0 w i hB hi
      · intro _; exact a3
      · intro z; exact absurd c z
    · obtain ⟨m1, ⟨n1, n2, n3, n4, n5⟩, m3, m4, m5, m6, m7, m8, m9, m10, m11, m12⟩ := id m
      obtain ⟨y1, ⟨p1, p2, p3, p4, p5⟩, y3, y4, y5, y6, y7, y8, y9, y10, y11, y12⟩ := id m.z
      obtain ⟨⟨c1, c2, c3, c4, c5, c6, c7, c8, c9, c10⟩, c11, c12, c13⟩ := id y1
      obtain ⟨f', q1, q2⟩ := y_X8_rankedL (eU u 33 0 0) i y1 (y8 hH) (fun k k1 k2 => ⟨(c13 k k1 k2).1, fun _ => (c13 k k1 k2).2, y12 k k1 k2⟩) (by omega)
      have q3 : isRk (htK w) (w 2 2) i f' := by
        rw [p3] at q1
        refine isRk_cong (fun k k1 k2 => ?_) q1
        show htM (eU u 33 0 0) _ _ = htC w _ _
        rw [m.z.ht, y7 (2 * k) (by omega) (by omega), y7 (2 * k + 1) (by omega) (by omega)]
      rw [isRk_one q3 a1] at q2
      refine ⟨eU u 33 0 0, Cal.of (by decide +kernel) (Nat.le_of_ble_eq_true rfl) ?_, Fr.rf, fun _ _ _ => rfl⟩
      apply tX8_ranked_0 u i m1 hi
      · intro z; exfalso; omega
      · intro _ _; exact q2
      · intro _ z; exfalso; omega
  · refine step_q (r := (0, -1)) (v := 1) hI (by decide) ⟨w, Cal.of (by decide +kernel) (Nat.le_of_ble_eq_true rfl) ?_, Fr.rf, hC⟩ (fun u m => ?_)
    · apply tX7_ranked_0 w i hB hi
      · intro z; exact absurd z c
      · intro _; exact ⟨rfl, rfl⟩
    · obtain ⟨m1, ⟨n1, n2, n3, n4, n5⟩, m3, m4, m5, m6, m7, m8, m9, m10, m11, m12⟩ := id m
      refine ⟨eU u 33 0 0, Cal.of (by decide +kernel) (Nat.le_of_ble_eq_true rfl) ?_, Fr.rf, fun _ _ _ => rfl⟩
      apply tX8_ranked_0 u i m1 hi
      · intro _; exact ⟨rfl, rfl⟩
      · intro _ z; exfalso; omega
      · intro _ _; exact ⟨rfl, rfl⟩
theorem tt_0 {w : eW} {a b : Int} (h1 : 1 ≤ w 2 0) (h2 : 1 ≤ w 2 1) (c : 0 ≤ a ∧ a ≤ 9999 ∧ 1 ≤ b ∧ b ≤ 9999) : rX7_timeTrouble w a b = 0 := by
  unfold rX7_timeTrouble; rw [if_pos (by omega), if_neg (by omega), if_neg (by omega), if_neg (by omega), if_neg (by omega)]
theorem tt_2 {w : eW} {a b : Int} (h1 : 1 ≤ w 2 0) (h2 : 1 ≤ w 2 1) (c : ¬ (0 ≤ a ∧ a ≤ 9999 ∧ 1 ≤ b ∧ b ≤ 9999)) : rX7_timeTrouble w a b = 2 := by
  unfold rX7_timeTrouble; rw [if_pos (by omega)]; (repeat' split) <;> first | rfl | (exfalso; omega)
theorem tt_1 {w : eW} {a b : Int} (h1 : w 2 0 = 0) : rX7_timeTrouble w a b = 1 := by
  unfold rX7_timeTrouble; rw [if_neg (by omega)]
theorem s_points (a b : Int) (ha : eI a) (hb : eI b) : ST 0 mX7_points mX8_points [(0, a), (0, b)] := by
  intro w hI
  obtain ⟨hB, hM, hS, hO, -, hT, -, hC⟩ := id hI
  obtain ⟨⟨b1, b2, b3, b4, b5, b6⟩, b7, b8, b9⟩ := id hB
  have hpt := zX7_timeTrouble w a b ha hb hB
  rcases hO with ⟨o1, o2, o3, o4, o5⟩ | ⟨o1, o2, o3, hH, hmk, hne⟩
  · rw [tt_1 o2] at hpt
    refine step_q (r := (0, -1)) (v := 1) hI (by decide) ⟨w, Cal.of (by decide +kernel) (Nat.le_of_ble_eq_true rfl) ?_, Fr.rf, hC⟩ (fun u m => ?_)
    · apply tX7_points_0 w a b hB (tt := 1) (by decide) hpt (w1 := w) (vv := 0) <;> (intros; first | with_reducible exact ⟨rfl, rfl⟩ | contradiction | (exfalso; omega))
    · obtain ⟨m1, ⟨n1, n2, n3, n4, n5⟩, m3, m4, m5, m6, m7, m8, m9, m10, m11, m12⟩ := id m
      refine ⟨eU u 33 0 0, Cal.of (by decide +kernel) (Nat.le_of_ble_eq_true rfl) ?_, Fr.rf, fun _ _ _ => rfl⟩
      apply tX8_points_0 u a b m1 ha hb <;> (intros; first | with_reducible exact ⟨rfl, rfl⟩ | contradiction | (exfalso; omega))
  · by_cases c : 0 ≤ a ∧ a ≤ 9999 ∧ 1 ≤ b ∧ b ≤ 9999
    · rw [tt_0 o2 o3 c] at hpt
      obtain ⟨w1, a1, a2, a3, a4⟩ := y_X5_countAbove w a b (by omega) (by omega) hH hC.2.1 hC.2.2.1
      refine step_q (r := (0, ptN (w 2 0) (w 2 1) (fun px py => a * 10080 < htC w px py * b))) (v := 0) hI (by decide) ⟨w1, Cal.of (by decide +kernel) (Nat.le_of_ble_eq_true rfl) ?_, a2.mono (by decide), CA_meas a2 a3 a4 hC⟩ (fun u m => ?_)
      · apply tX7_points_0 w a b hB (tt := 0) (by decide) hpt (w1 := w1) (vv := ptN (w 2 0) (w 2 1) (fun px py => a * 10080 < htC w px py * b)) (fun _ => a1) <;> (intros; first | with_reducible exact ⟨rfl, rfl⟩ | contradiction | (exfalso; omega))
      · obtain ⟨m1, ⟨n1, n2, n3, n4, n5⟩, m3, m4, m5, m6, m7, m8, m9, m10, m11, m12⟩ := id m
        have q := y_X8_pointsL (eU u 33 0 0) a b m.z.1 (m.z.2.2.2.2.2.2.2.1 hH) (by omega) (by omega)
        rw [m.z.ht, m.z.2.1.1, m.z.2.1.2.1] at q
        refine ⟨eU u 33 0 0, Cal.of (by decide +kernel) (Nat.le_of_ble_eq_true rfl) ?_, Fr.rf, fun _ _ _ => rfl⟩
        apply tX8_points_0 u a b m1 ha hb
        · intro z; exfalso; omega
        · intro _ _; exact q
        · intro _ z; exact absurd c z
    · rw [tt_2 o2 o3 c] at hpt
      refine step_q (r := (0, -1)) (v := 2) hI (by decide) ⟨w, Cal.of (by decide +kernel) (Nat.le_of_ble_eq_true rfl) ?_, Fr.rf, hC⟩ (fun u m => ?_)
      · apply tX7_points_0 w a b hB (tt := 2) (by decide) hpt (w1 := w) (vv := 0) <;> (intros; first | with_reducible exact ⟨rfl, rfl⟩ | contradiction | (exfalso; omega))
      · obtain ⟨m1, ⟨n1, n2, n3, n4, n5⟩, m3, m4, m5, m6, m7, m8, m9, m10, m11, m12⟩ := id m
        refine ⟨eU u 33 0 0, Cal.of (by decide +kernel) (Nat.le_of_ble_eq_true rfl) ?_, Fr.rf, fun _ _ _ => rfl⟩
        apply tX8_points_0 u a b m1 ha hb <;> (intros; first | with_reducible exact ⟨rfl, rfl⟩ | contradiction | (exfalso; omega))
