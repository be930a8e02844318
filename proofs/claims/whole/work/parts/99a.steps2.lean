theorem FrW.q {z u : eW} (h : FrW z u) : Fr [33, 41, 42, 43, 44, 45, 46, 47, 48, 49, 50, 51, 52, 53, 54, 55, 56, 57, 58, 59, 60] z u ∧ ∀ i, 3 ≤ i → i ≤ 28 → u 33 i = z 33 i := ⟨h.1.mono (by decide), fun i h1 h2 => h.2 i (by omega)⟩
theorem z_walls {w u : eW} (m : MZ w u) : ∃ u1, Cal mX8_laysWalls [eR 33] (eU u 33 0 0) none u1 ∧ FrW (eU u 33 0 0) u1 ∧ RM u1 (wallsOf w) := by
  obtain ⟨u1, a1, a2, a3⟩ := y_X8_laysWalls (eU u 33 0 0) m.z.1
  rw [m.z.2.2.2.2.1] at a3
  exact ⟨u1, a1, a2, a3⟩
theorem z_isWall {w u : eW} (m : MZ w u) (hB : HB w) (h1 : w 33 28 = 1) {i : Int} (hi : eI i) : ∃ u1, Cal mX8_isWall [eR 33, (0, i)] (eU u 33 0 0) (some (0, if 0 ≤ i ∧ i < wallsOf w 0 0 then 1 else 0)) u1 ∧ FrW (eU u 33 0 0) u1 ∧ RM u1 (wallsOf w) := by
  obtain ⟨u1, a1, a2, a3⟩ := z_walls m
  have hb := walls_b w hB
  have e := m.z.2.1.2.2.2.2
  refine ⟨u1, Cal.of (by decide +kernel) (Nat.le_of_ble_eq_true rfl) ?_, a2, a3⟩
  apply tX8_isWall_0 (eU u 33 0 0) i m.z.1 hi (by rw [a3.1]; exact hb) a1
  · intro z; exfalso; omega
  · intro _
    refine ⟨?_, rfl⟩
    rw [a3.1]
    by_cases c : 0 ≤ i ∧ i < wallsOf w 0 0
    · rw [if_pos c, if_pos (by omega)]
    · rw [if_neg c, if_neg (by omega)]
theorem z_isWall0 {w u : eW} (m : MZ w u) (hB : HB w) (h1 : w 33 28 = 0) {i : Int} (hi : eI i) : Cal mX8_isWall [eR 33, (0, i)] (eU u 33 0 0) (some (0, 0)) (eU u 33 0 0) := by
  obtain ⟨u1, a1, a2, a3⟩ := z_walls m
  have hb := walls_b w hB
  have e := m.z.2.1.2.2.2.2
  refine Cal.of (by decide +kernel) (Nat.le_of_ble_eq_true rfl) ?_
  apply tX8_isWall_0 (eU u 33 0 0) i m.z.1 hi (by rw [a3.1]; exact hb) a1
  · intro _; exact ⟨rfl, rfl⟩
  · intro z; exfalso; omega

theorem s_wall (i what : Int) (hi : eI i) (hw : eI what) : ST 0 mX7_wall mX8_wall [(0, i), (0, what)] := by
  intro w hI
  obtain ⟨hB, hM, hS, hO, -, hT, -, hC⟩ := id hI
  obtain ⟨⟨b1, b2, b3, b4, b5, b6⟩, b7, b8, b9⟩ := id hB
  have hb := walls_b w hB
  obtain ⟨w1, a1, a2, a3, a4⟩ := y_build w hB hC
  have ec : w1 13 3 = wallsOf w 0 0 := a3.2.1
  have hbad : ¬ ((0 ≤ i ∧ i < wallsOf w 0 0) ∧ 0 ≤ what ∧ what < 4) → SC mX7_wall [(0, i), (0, what)] w (0, -1) 1 := fun hn =>
    ⟨w1, Cal.of (by decide +kernel) (Nat.le_of_ble_eq_true rfl) (by
      apply tX7_wall_0 (w1 := w1) (vv := w1 14 (i * 4 + what)) w i what hB hi hw (by omega) a1 (fun q1 q2 => y_X6_toldOf w1 i what (by omega)) <;> (intros; first | with_reducible exact ⟨rfl, rfl⟩ | contradiction | (exfalso; omega))), a2.mono (by decide), a4⟩
  rcases hO with ⟨o1, o2, o3, o4, o5⟩ | ⟨o1, o2, o3, hH, hmk, hne⟩
  · have e0 := walls_none w o2 o3
    refine step_q (r := (0, -1)) (v := 1) hI (by decide) (hbad (by omega)) (fun u m => ?_)
    obtain ⟨m1, ⟨n1, n2, n3, n4, n5⟩, m3, m4, m5, m6, m7, m8, m9, m10, m11, m12⟩ := id m
    refine ⟨eU u 33 0 0, Cal.of (by decide +kernel) (Nat.le_of_ble_eq_true rfl) ?_, Fr.rf, fun _ _ _ => rfl⟩
    apply tX8_wall_0 u i what m1 (w1 := eU u 33 0 0) (iw := 0) hi hw (by decide) (Or.inl rfl) (z_isWall0 m hB o1 hi) <;> (intros; first | with_reducible exact ⟨rfl, rfl⟩ | contradiction | (exfalso; omega))
  · by_cases c : (0 ≤ i ∧ i < wallsOf w 0 0) ∧ 0 ≤ what ∧ what < 4
    · obtain ⟨f1, f2, f3, f4⟩ := a3.2.2.1 i c.1.1 c.1.2
      refine step_q (r := (0, w1 14 (i * 4 + what))) (v := 0) hI (by decide) ⟨w1, Cal.of (by decide +kernel) (Nat.le_of_ble_eq_true rfl) (by
        apply tX7_wall_0 (w1 := w1) (vv := w1 14 (i * 4 + what)) w i what hB hi hw (by omega) a1 (fun q1 q2 => y_X6_toldOf w1 i what (by omega)) <;> (intros; first | with_reducible exact ⟨rfl, rfl⟩ | contradiction | (exfalso; omega))), a2.mono (by decide), a4⟩ (fun u m => ?_)
      obtain ⟨m1, ⟨n1, n2, n3, n4, n5⟩, m3, m4, m5, m6, m7, m8, m9, m10, m11, m12⟩ := id m
      obtain ⟨u1, z1, z2, z3⟩ := z_isWall m hB o1 hi
      rw [if_pos c.1] at z1
      obtain ⟨g1, g2, g3, g4⟩ := z3.2 i c.1.1 c.1.2
      refine ⟨u1, Cal.of (by decide +kernel) (Nat.le_of_ble_eq_true rfl) ?_, z2.q.1, z2.q.2⟩
      have hws : what = 0 ∨ what = 1 ∨ what = 2 ∨ what = 3 := by omega
      rcases hws with q | q | q | q <;> subst q
      · rw [Int.add_zero, f1, ← g1]
        apply tX8_wall_0 u i 0 m1 (w1 := u1) (iw := 1) hi hw (by decide) (Or.inr (by omega)) z1 <;> (intros; first | with_reducible exact ⟨rfl, rfl⟩ | contradiction | (exfalso; omega))
      · rw [f2, ← g2]
        apply tX8_wall_0 u i 1 m1 (w1 := u1) (iw := 1) hi hw (by decide) (Or.inr (by omega)) z1 <;> (intros; first | with_reducible exact ⟨rfl, rfl⟩ | contradiction | (exfalso; omega))
      · rw [f3, ← g3]
        apply tX8_wall_0 u i 2 m1 (w1 := u1) (iw := 1) hi hw (by decide) (Or.inr (by omega)) z1 <;> (intros; first | with_reducible exact ⟨rfl, rfl⟩ | contradiction | (exfalso; omega))
      · rw [f4, ← g4]
        apply tX8_wall_0 u i 3 m1 (w1 := u1) (iw := 1) hi hw (by decide) (Or.inr (by omega)) z1 <;> (intros; first | with_reducible exact ⟨rfl, rfl⟩ | contradiction | (exfalso; omega))
    · refine step_q (r := (0, -1)) (v := 1) hI (by decide) (hbad c) (fun u m => ?_)
      obtain ⟨m1, ⟨n1, n2, n3, n4, n5⟩, m3, m4, m5, m6, m7, m8, m9, m10, m11, m12⟩ := id m
      obtain ⟨u1, z1, z2, z3⟩ := z_isWall m hB o1 hi
      by_cases c1 : 0 ≤ i ∧ i < wallsOf w 0 0
      · rw [if_pos c1] at z1
        refine ⟨u1, Cal.of (by decide +kernel) (Nat.le_of_ble_eq_true rfl) ?_, z2.q.1, z2.q.2⟩
        apply tX8_wall_0 u i what m1 (w1 := u1) (iw := 1) hi hw (by decide) (Or.inr (by omega)) z1 <;> (intros; first | with_reducible exact ⟨rfl, rfl⟩ | contradiction | (exfalso; omega))
      · rw [if_neg c1] at z1
        refine ⟨u1, Cal.of (by decide +kernel) (Nat.le_of_ble_eq_true rfl) ?_, z2.q.1, z2.q.2⟩
        apply tX8_wall_0 u i what m1 (w1 := u1) (iw := 0) hi hw (by decide) (Or.inl rfl) z1 <;> (intros; first | with_reducible exact ⟨rfl, rfl⟩ | contradiction | (exfalso; omega))

theorem z_wallWith {w u u1 : eW} (m : MZ w u) (hB : HB w) (f : FrW (eU u 33 0 0) u1) (hR : RM u1 (wallsOf w)) {x y side : Int} (a1 : 0 ≤ side) (a2 : side < 4) (a3 : 0 ≤ x) (a4 : x < w 2 0) (a5 : 0 ≤ y) (a6 : y < w 2 1) : (wallsOf w 5 (side * 140 + y * 14 + x) = -2 ∧ Cal mX8_wallWith [eR 33, (0, x), (0, y), (0, side)] u1 (some (0, -1)) u1) ∨ ((0 ≤ wallsOf w 5 (side * 140 + y * 14 + x) ∧ wallsOf w 5 (side * 140 + y * 14 + x) < 280) ∧ Cal mX8_wallWith [eR 33, (0, x), (0, y), (0, side)] u1 (some (0, wallsOf w 5 (side * 140 + y * 14 + x))) u1) := by
  obtain ⟨⟨b1, b2, b3, b4, b5, b6⟩, b7, b8, b9⟩ := id hB
  have hb := walls_b w hB
  have hg : ∀ x y, gC w x y = 1 → 0 ≤ x ∧ x < ((w 2 0).toNat : Int) ∧ 0 ≤ y ∧ y < ((w 2 1).toNat : Int) := by
    intro x y q
    obtain ⟨q1, q2, q3, q4, q5⟩ := gC_1.mp q
    omega
  have hWB := (WB_all (g := gC w) (W := (w 2 0).toNat) (H := (w 2 1).toNat) (by omega) (by omega) 4 (by decide)).2
  obtain ⟨s1, s2, s3⟩ := wall_sem (g := gC w) (W := (w 2 0).toNat) (H := (w 2 1).toNat) (by omega) (by omega) hg a1 a2 a3 (show x < 14 by omega) a5 (show y < 10 by omega)
  have q := y_X8_wallWith u1 (g := gC w) (W := (w 2 0).toNat) (H := (w 2 1).toNat) (by omega) (by omega) hg hR (fun k k1 k2 => by
      have q := hWB k k1 k2
      have q2 := hR.2 k k1 k2
      rw [q2.1, q2.2.1, q2.2.2.1, q2.2.2.2]
      unfold wallsOf
      omega) (x := x) (y := y) (side := side) a1 a2 a3 (by omega) a5 (by omega)
  by_cases hw : wlI (gC w) side x y
  · rw [if_pos hw] at q
    have := s2 hw
    exact Or.inr ⟨⟨this.1, Int.lt_of_lt_of_le this.2 hb.2⟩, q⟩
  · rw [if_neg hw] at q
    exact Or.inl ⟨s1 hw, q⟩
theorem s_wallOf (x y side : Int) (hx : eI x) (hy : eI y) (hs : eI side) : ST 0 mX7_wallOf mX8_wallOf [(0, x), (0, y), (0, side)] := by
  intro w hI
  obtain ⟨hB, hM, hS, hO, -, hT, -, hC⟩ := id hI
  obtain ⟨⟨b1, b2, b3, b4, b5, b6⟩, b7, b8, b9⟩ := id hB
  have hb := walls_b w hB
  obtain ⟨w1, a1, a2, a3, a4⟩ := y_build w hB hC
  by_cases c1 : 0 ≤ x ∧ x < w 2 0 ∧ 0 ≤ y ∧ y < w 2 1
  · have h1 : w 33 28 = 1 := by rcases hO with ⟨o1, o2, o3, o4, o5⟩ | ⟨o1, -⟩ <;> omega
    by_cases c2 : 0 ≤ side ∧ side < 4
    · by_cases c3 : insC w x y
      · refine step_q (r := (0, wallsOf w 5 (side * 140 + y * 14 + x))) (v := 0) hI (by decide) ⟨w1, Cal.of (by decide +kernel) (Nat.le_of_ble_eq_true rfl) ?_, a2.mono (by decide), a4⟩ (fun u m => ?_)
        · have e := zX6_wallAt w1 x y side hx hy hs (by omega)
          unfold rX6_wallAt at e
          rw [a3.2.2.2 _ (by omega) (by omega)] at e
          apply tX7_wallOf_0 (w1 := w1) (vv := wallsOf w 5 (side * 140 + y * 14 + x)) w x y side hB hx hy hs a1 (fun _ => e) <;> (intros; first | with_reducible exact ⟨rfl, rfl⟩ | contradiction | (exfalso; omega))
        · obtain ⟨m1, ⟨n1, n2, n3, n4, n5⟩, m3, m4, m5, m6, m7, m8, m9, m10, m11, m12⟩ := id m
          obtain ⟨u1, z1, z2, z3⟩ := z_walls m
          rcases z_wallWith m hB z2 z3 c2.1 c2.2 c1.1 c1.2.1 c1.2.2.1 c1.2.2.2 with ⟨q1, q2⟩ | ⟨q1, q2⟩
          · rw [q1]
            refine ⟨u1, Cal.of (by decide +kernel) (Nat.le_of_ble_eq_true rfl) ?_, z2.q.1, z2.q.2⟩
            apply tX8_wallOf_0 u x y side m1 (w1 := u1) (ww := -1) (fr := 1) (ii := 1) hx hy hs (by decide) (by decide) (by decide) (z_isFrame1 m hx hy h1 c1) (fun _ => z_isInside1 m hx hy c3) (fun _ => z1) (fun _ _ _ => q2) <;> (intros; first | with_reducible exact ⟨rfl, rfl⟩ | contradiction | (exfalso; omega))
          · refine ⟨u1, Cal.of (by decide +kernel) (Nat.le_of_ble_eq_true rfl) ?_, z2.q.1, z2.q.2⟩
            apply tX8_wallOf_0 u x y side m1 (w1 := u1) (ww := wallsOf w 5 (side * 140 + y * 14 + x)) (fr := 1) (ii := 1) hx hy hs (by omega) (by decide) (by decide) (z_isFrame1 m hx hy h1 c1) (fun _ => z_isInside1 m hx hy c3) (fun _ => z1) (fun _ _ _ => q2) <;> (intros; first | with_reducible exact ⟨rfl, rfl⟩ | contradiction | (exfalso; omega))
      · refine step_q (r := (0, -1)) (v := 5) hI (by decide) ⟨w, Cal.of (by decide +kernel) (Nat.le_of_ble_eq_true rfl) ?_, Fr.rf, hC⟩ (fun u m => ?_)
        · apply tX7_wallOf_0 (w1 := w1) (vv := rX6_wallAt w1 x y side) w x y side hB hx hy hs a1 (fun _ => zX6_wallAt w1 x y side hx hy hs (by omega)) <;> (intros; first | with_reducible exact ⟨rfl, rfl⟩ | contradiction | (exfalso; omega))
        · obtain ⟨m1, ⟨n1, n2, n3, n4, n5⟩, m3, m4, m5, m6, m7, m8, m9, m10, m11, m12⟩ := id m
          obtain ⟨u1, z1, z2, z3⟩ := z_walls m
          refine ⟨eU u 33 0 0, Cal.of (by decide +kernel) (Nat.le_of_ble_eq_true rfl) ?_, Fr.rf, fun _ _ _ => rfl⟩
          apply tX8_wallOf_0 u x y side m1 (w1 := u1) (ww := 0) (fr := 1) (ii := 0) hx hy hs (by decide) (by decide) (by decide) (z_isFrame1 m hx hy h1 c1) (fun _ => z_isInside0 m hx hy c3) (fun _ => z1) (fun _ q _ => absurd rfl q) <;> (intros; first | with_reducible exact ⟨rfl, rfl⟩ | contradiction | (exfalso; omega))
    · refine step_q (r := (0, -1)) (v := 1) hI (by decide) ⟨w, Cal.of (by decide +kernel) (Nat.le_of_ble_eq_true rfl) ?_, Fr.rf, hC⟩ (fun u m => ?_)
      · apply tX7_wallOf_0 (w1 := w1) (vv := 0) w x y side hB hx hy hs a1 (fun q => absurd ⟨q.2.2.2.2.1, q.2.2.2.2.2⟩ c2) <;> (intros; first | with_reducible exact ⟨rfl, rfl⟩ | contradiction | (exfalso; omega))
      · obtain ⟨m1, ⟨n1, n2, n3, n4, n5⟩, m3, m4, m5, m6, m7, m8, m9, m10, m11, m12⟩ := id m
        obtain ⟨u1, z1, z2, z3⟩ := z_walls m
        refine ⟨eU u 33 0 0, Cal.of (by decide +kernel) (Nat.le_of_ble_eq_true rfl) ?_, Fr.rf, fun _ _ _ => rfl⟩
        by_cases c3 : insC w x y
        · apply tX8_wallOf_0 u x y side m1 (w1 := u1) (ww := 0) (fr := 1) (ii := 1) hx hy hs (by decide) (by decide) (by decide) (z_isFrame1 m hx hy h1 c1) (fun _ => z_isInside1 m hx hy c3) (fun _ => z1) (fun _ _ q => absurd ⟨q.1, by omega⟩ c2) <;> (intros; first | with_reducible exact ⟨rfl, rfl⟩ | contradiction | (exfalso; omega))
        · apply tX8_wallOf_0 u x y side m1 (w1 := u1) (ww := 0) (fr := 1) (ii := 0) hx hy hs (by decide) (by decide) (by decide) (z_isFrame1 m hx hy h1 c1) (fun _ => z_isInside0 m hx hy c3) (fun _ => z1) (fun _ q _ => absurd rfl q) <;> (intros; first | with_reducible exact ⟨rfl, rfl⟩ | contradiction | (exfalso; omega))
  · refine step_q (r := (0, -1)) (v := 1) hI (by decide) ⟨w, Cal.of (by decide +kernel) (Nat.le_of_ble_eq_true rfl) ?_, Fr.rf, hC⟩ (fun u m => ?_)
    · apply tX7_wallOf_0 (w1 := w1) (vv := 0) w x y side hB hx hy hs a1 (fun q => absurd ⟨q.1, q.2.1, q.2.2.1, q.2.2.2.1⟩ c1) <;> (intros; first | with_reducible exact ⟨rfl, rfl⟩ | contradiction | (exfalso; omega))
    · obtain ⟨m1, ⟨n1, n2, n3, n4, n5⟩, m3, m4, m5, m6, m7, m8, m9, m10, m11, m12⟩ := id m
      obtain ⟨u1, z1, z2, z3⟩ := z_walls m
      refine ⟨eU u 33 0 0, Cal.of (by decide +kernel) (Nat.le_of_ble_eq_true rfl) ?_, Fr.rf, fun _ _ _ => rfl⟩
      apply tX8_wallOf_0 u x y side m1 (w1 := u1) (ww := 0) (fr := 0) (ii := 0) hx hy hs (by decide) (by decide) (by decide) (z_isFrame0 m hx hy c1) (fun q => absurd rfl q) (fun _ => z1) (fun q _ _ => absurd rfl q) <;> (intros; first | with_reducible exact ⟨rfl, rfl⟩ | contradiction | (exfalso; omega))

theorem part_32 (w : eW) (a b what : Int) : rX2_part32 (eU (eU w 32 0 a) 32 1 b) what = if what = 0 then a else b := by
  unfold rX2_part32
  have e1 : eU (eU w 32 0 a) 32 1 b 32 0 = a := by rw [eU_get, if_neg (by decide), eU_get, if_pos rfl]
  have e2 : eU (eU w 32 0 a) 32 1 b 32 1 = b := by rw [eU_get, if_pos rfl]
  rw [e1, e2]
theorem y_height (w : eW) (px py : Int) (hH : HH w) (hC : CA w) (hp : 0 ≤ px ∧ px ≤ 4 * w 2 0 ∧ 0 ≤ py ∧ py ≤ 4 * w 2 1) : ∃ w1, Cal mX5_heightOf [eR 16, (0, px), (0, py)] w (some (0, htC w px py)) w1 ∧ Fr [16, 17, 18, 19, 20] w w1 ∧ CA w1 ∧ RY w1 ∧ RR w1 px ∧ RQ w1 py ∧ isHt (gC w) (w 2 0) (w 2 1) (qC w) px py (htC w px py) ∧ (0 ≤ htC w px py ∧ htC w px py ≤ 200000) := by
  obtain ⟨w1, a1, a2, a3, a4, a5, a6, a7, a8, a9⟩ := y_X5_heightOf w px py hH hC.2.1 hp
  exact ⟨w1, a1, a2, CA_height ⟨a2, a3, ⟨Or.inr a4, fun _ => a4⟩, a7⟩ hC, a4, a5, a6, a8, a9⟩
theorem z_height {w u : eW} (m : MZ w u) (hH : HH w) {px py : Int} (hp : 0 ≤ px ∧ px ≤ 4 * w 2 0 ∧ 0 ≤ py ∧ py ≤ 4 * w 2 1) : (0 ≤ htC w px py ∧ htC w px py ≤ 200000) ∧ Cal mX8_heightOf [eR 33, (0, px), (0, py)] (eU u 33 0 0) (some (0, htC w px py)) (eU u 33 0 0) := by
  obtain ⟨⟨b1, b2, b3, b4, b5, b6⟩, b7, b8, b9⟩ := id hH.1
  have q := (y_X8_height (eU u 33 0 0) px py m.z.1 (m.z.2.2.2.2.2.2.2.1 hH) (by omega)).2
  rw [m.z.ht] at q
  exact q
theorem s_height (px py what : Int) (hx : eI px) (hy : eI py) (hw : eI what) : ST 0 mX7_height mX8_height [(0, px), (0, py), (0, what)] := by
  intro w hI
  obtain ⟨hB, hM, hS, hO, -, hT, -, hC⟩ := id hI
  obtain ⟨⟨b1, b2, b3, b4, b5, b6⟩, b7, b8, b9⟩ := id hB
  rcases hO with ⟨o1, o2, o3, o4, o5⟩ | ⟨o1, o2, o3, hH, hmk, hne⟩
  · refine step_q (r := (0, -1)) (v := 1) hI (by decide) ⟨w, Cal.of (by decide +kernel) (Nat.le_of_ble_eq_true rfl) ?_, Fr.rf, hC⟩ (fun u m => ?_)
    · apply tX7_height_0 (w1 := w) (hh := 0) w px py what hB hx hy hw (by decide) <;> (intros; first | with_reducible exact ⟨rfl, rfl⟩ | contradiction | (exfalso; omega))
    · obtain ⟨m1, ⟨n1, n2, n3, n4, n5⟩, m3, m4, m5, m6, m7, m8, m9, m10, m11, m12⟩ := id m
      refine ⟨eU u 33 0 0, Cal.of (by decide +kernel) (Nat.le_of_ble_eq_true rfl) ?_, Fr.rf, fun _ _ _ => rfl⟩
      by_cases c2 : 0 ≤ px ∧ px ≤ 4 * w 2 0 ∧ 0 ≤ py ∧ py ≤ 4 * w 2 1
      · apply tX8_height_0 u px py what m1 (ip := 1) (hh := 0) (by decide) (z_isPoint1 m hx hy c2) hx hy hw (by decide) <;> (intros; first | with_reducible exact ⟨rfl, rfl⟩ | contradiction | (exfalso; omega))
      · apply tX8_height_0 u px py what m1 (ip := 0) (hh := 0) (by decide) (z_isPoint0 m hx hy c2) hx hy hw (by decide) <;> (intros; first | with_reducible exact ⟨rfl, rfl⟩ | contradiction | (exfalso; omega))
  · by_cases c1 : what = 0 ∨ what = 1
    · by_cases c2 : 0 ≤ px ∧ px ≤ 4 * w 2 0 ∧ 0 ≤ py ∧ py ≤ 4 * w 2 1
      · obtain ⟨w1, a1, a2, a3, a4, a5, a6, a7, a8⟩ := y_height w px py hH hC c2
        refine step_q (r := (0, if what = 0 then htC w px py / gI (htC w px py) 10080 else 10080 / gI (htC w px py) 10080)) (v := 0) hI (by decide) ⟨eU (eU w1 32 0 (rdA (htC w px py) 10080)) 32 1 (rdB (htC w px py) 10080), Cal.of (by decide +kernel) (Nat.le_of_ble_eq_true rfl) ?_, ((a2.mono (by decide)).put (by decide)).put (by decide), CA_fr (S := [32]) ((Fr.rf.put (by decide)).put (by decide)) (by decide) a3⟩ (fun u m => ?_)
        · apply tX7_height_0 (w1 := w1) (hh := htC w px py) w px py what hB hx hy hw a8 (fun _ _ => a1)
          · intro _ _ _
            refine ⟨?_, rfl⟩
            rw [part_32]; rfl
          all_goals (intros; first | with_reducible exact ⟨rfl, rfl⟩ | contradiction | (exfalso; omega))
        · obtain ⟨m1, ⟨n1, n2, n3, n4, n5⟩, m3, m4, m5, m6, m7, m8, m9, m10, m11, m12⟩ := id m
          obtain ⟨z1, z2⟩ := z_height m hH c2
          refine ⟨eU u 33 0 0, Cal.of (by decide +kernel) (Nat.le_of_ble_eq_true rfl) ?_, Fr.rf, fun _ _ _ => rfl⟩
          apply tX8_height_0 u px py what m1 (ip := 1) (hh := htC w px py) (by decide) (z_isPoint1 m hx hy c2) hx hy hw z1 (fun _ _ => z2)
          · intro z; exfalso; omega
          · intro _ _ z; exfalso; omega
          · intro _ _ _ z; rw [if_pos z]; exact ⟨rfl, rfl⟩
          · intro _ _ _ z; rw [if_neg z]; exact ⟨rfl, rfl⟩
          · intro _ z; exfalso; omega
      · refine step_q (r := (0, -1)) (v := 2) hI (by decide) ⟨w, Cal.of (by decide +kernel) (Nat.le_of_ble_eq_true rfl) ?_, Fr.rf, hC⟩ (fun u m => ?_)
        · apply tX7_height_0 (w1 := w) (hh := 0) w px py what hB hx hy hw (by decide) (fun _ q => absurd q c2) <;> (intros; first | with_reducible exact ⟨rfl, rfl⟩ | contradiction | (exfalso; omega))
        · obtain ⟨m1, ⟨n1, n2, n3, n4, n5⟩, m3, m4, m5, m6, m7, m8, m9, m10, m11, m12⟩ := id m
          refine ⟨eU u 33 0 0, Cal.of (by decide +kernel) (Nat.le_of_ble_eq_true rfl) ?_, Fr.rf, fun _ _ _ => rfl⟩
          apply tX8_height_0 u px py what m1 (ip := 0) (hh := 0) (by decide) (z_isPoint0 m hx hy c2) hx hy hw (by decide) (fun _ q => absurd rfl q) <;> (intros; first | with_reducible exact ⟨rfl, rfl⟩ | contradiction | (exfalso; omega))
    · refine step_q (r := (0, -1)) (v := 1) hI (by decide) ?_ (fun u m => ?_)
      · by_cases c2 : 0 ≤ px ∧ px ≤ 4 * w 2 0 ∧ 0 ≤ py ∧ py ≤ 4 * w 2 1
        · obtain ⟨w1, a1, a2, a3, a4, a5, a6, a7, a8⟩ := y_height w px py hH hC c2
          exact ⟨w, Cal.of (by decide +kernel) (Nat.le_of_ble_eq_true rfl) (by apply tX7_height_0 (w1 := w1) (hh := htC w px py) w px py what hB hx hy hw a8 (fun _ _ => a1) <;> (intros; first | with_reducible exact ⟨rfl, rfl⟩ | contradiction | (exfalso; omega))), Fr.rf, hC⟩
        · exact ⟨w, Cal.of (by decide +kernel) (Nat.le_of_ble_eq_true rfl) (by apply tX7_height_0 (w1 := w) (hh := 0) w px py what hB hx hy hw (by decide) (fun _ q => absurd q c2) <;> (intros; first | with_reducible exact ⟨rfl, rfl⟩ | contradiction | (exfalso; omega))), Fr.rf, hC⟩
      · obtain ⟨m1, ⟨n1, n2, n3, n4, n5⟩, m3, m4, m5, m6, m7, m8, m9, m10, m11, m12⟩ := id m
        refine ⟨eU u 33 0 0, Cal.of (by decide +kernel) (Nat.le_of_ble_eq_true rfl) ?_, Fr.rf, fun _ _ _ => rfl⟩
        by_cases c2 : 0 ≤ px ∧ px ≤ 4 * w 2 0 ∧ 0 ≤ py ∧ py ≤ 4 * w 2 1
        · obtain ⟨z1, z2⟩ := z_height m hH c2
          apply tX8_height_0 u px py what m1 (ip := 1) (hh := htC w px py) (by decide) (z_isPoint1 m hx hy c2) hx hy hw z1 (fun _ _ => z2) <;> (intros; first | with_reducible exact ⟨rfl, rfl⟩ | contradiction | (exfalso; omega))
        · apply tX8_height_0 u px py what m1 (ip := 0) (hh := 0) (by decide) (z_isPoint0 m hx hy c2) hx hy hw (by decide) (fun _ q => absurd rfl q) <;> (intros; first | with_reducible exact ⟨rfl, rfl⟩ | contradiction | (exfalso; omega))

theorem pt_0 {w : eW} {px py : Int} (h1 : 1 ≤ w 2 0) (h2 : 1 ≤ w 2 1) (c : 0 ≤ px ∧ px ≤ 4 * w 2 0 ∧ 0 ≤ py ∧ py ≤ 4 * w 2 1) : rX7_pointTrouble w px py = 0 := by
  unfold rX7_pointTrouble; rw [if_pos (by omega), if_pos c]
theorem pt_2 {w : eW} {px py : Int} (h1 : 1 ≤ w 2 0) (h2 : 1 ≤ w 2 1) (c : ¬ (0 ≤ px ∧ px ≤ 4 * w 2 0 ∧ 0 ≤ py ∧ py ≤ 4 * w 2 1)) : rX7_pointTrouble w px py = 2 := by
  unfold rX7_pointTrouble; rw [if_pos (by omega), if_neg c]
theorem pt_1 {w : eW} {px py : Int} (h1 : w 2 0 = 0) : rX7_pointTrouble w px py = 1 := by
  unfold rX7_pointTrouble; rw [if_neg (by omega)]
theorem s_slopes (px py : Int) (hx : eI px) (hy : eI py) : ST 0 mX7_slopes mX8_slopes [(0, px), (0, py)] := by
  intro w hI
  obtain ⟨hB, hM, hS, hO, -, hT, -, hC⟩ := id hI
  obtain ⟨⟨b1, b2, b3, b4, b5, b6⟩, b7, b8, b9⟩ := id hB
  have hpt := zX7_pointTrouble w px py hx hy hB
  rcases hO with ⟨o1, o2, o3, o4, o5⟩ | ⟨o1, o2, o3, hH, hmk, hne⟩
  · rw [pt_1 o2] at hpt
    refine step_q (r := (0, -1)) (v := 1) hI (by decide) ⟨w, Cal.of (by decide +kernel) (Nat.le_of_ble_eq_true rfl) ?_, Fr.rf, hC⟩ (fun u m => ?_)
    · apply tX7_slopes_0 (w1 := w) (hh := 0) (sl := 0) w px py hB (tt := 1) (by decide) hpt <;> (intros; first | with_reducible exact ⟨rfl, rfl⟩ | contradiction | (exfalso; omega))
    · obtain ⟨m1, ⟨n1, n2, n3, n4, n5⟩, m3, m4, m5, m6, m7, m8, m9, m10, m11, m12⟩ := id m
      refine ⟨eU u 33 0 0, Cal.of (by decide +kernel) (Nat.le_of_ble_eq_true rfl) ?_, Fr.rf, fun _ _ _ => rfl⟩
      by_cases c2 : 0 ≤ px ∧ px ≤ 4 * w 2 0 ∧ 0 ≤ py ∧ py ≤ 4 * w 2 1
      · apply tX8_slopes_0 u px py m1 (ip := 1) (by decide) (z_isPoint1 m hx hy c2) (sl := 0) hx hy <;> (intros; first | with_reducible exact ⟨rfl, rfl⟩ | contradiction | (exfalso; omega))
      · apply tX8_slopes_0 u px py m1 (ip := 0) (by decide) (z_isPoint0 m hx hy c2) (sl := 0) hx hy <;> (intros; first | with_reducible exact ⟨rfl, rfl⟩ | contradiction | (exfalso; omega))
  · by_cases c2 : 0 ≤ px ∧ px ≤ 4 * w 2 0 ∧ 0 ≤ py ∧ py ≤ 4 * w 2 1
    · rw [pt_0 o2 o3 c2] at hpt
      obtain ⟨w1, a1, a2, a3, a4, a5, a6, a7, a8⟩ := y_height w px py hH hC c2
      have hs := y_X5_slopesAt w1 px py (htC w px py) (HH_fr a2 hH (by decide)) a4 a5 a6 (by rw [a2 2 (by decide)]; exact c2) (by rw [gC_fr a2 (by decide), qC_fr a2 (by decide), a2 2 (by decide)]; exact a7) a8
      rw [gC_fr a2 (by decide), qC_fr a2 (by decide), a2 2 (by decide)] at hs
      refine step_q (r := (0, slG (gC w) (w 2 0) (w 2 1) (qC w) px py)) (v := 0) hI (by decide) ⟨w1, Cal.of (by decide +kernel) (Nat.le_of_ble_eq_true rfl) ?_, a2.mono (by decide), a3⟩ (fun u m => ?_)
      · apply tX7_slopes_0 (w1 := w1) (hh := htC w px py) (sl := slG (gC w) (w 2 0) (w 2 1) (qC w) px py) w px py hB (tt := 0) (by decide) hpt (fun _ => a1) (fun _ => hs) <;> (intros; first | with_reducible exact ⟨rfl, rfl⟩ | contradiction | (exfalso; omega))
      · obtain ⟨m1, ⟨n1, n2, n3, n4, n5⟩, m3, m4, m5, m6, m7, m8, m9, m10, m11, m12⟩ := id m
        have hz := y_X8_slopesOf (eU u 33 0 0) px py m.z.1 (m.z.2.2.2.2.2.2.2.1 hH) (by rw [m.z.2.1.1, m.z.2.1.2.1]; exact c2)
        rw [m.z.sl] at hz
        refine ⟨eU u 33 0 0, Cal.of (by decide +kernel) (Nat.le_of_ble_eq_true rfl) ?_, Fr.rf, fun _ _ _ => rfl⟩
        apply tX8_slopes_0 u px py m1 (ip := 1) (by decide) (z_isPoint1 m hx hy c2) (sl := slG (gC w) (w 2 0) (w 2 1) (qC w) px py) hx hy (fun _ _ => hz) <;> (intros; first | with_reducible exact ⟨rfl, rfl⟩ | contradiction | (exfalso; omega))
    · rw [pt_2 o2 o3 c2] at hpt
      refine step_q (r := (0, -1)) (v := 2) hI (by decide) ⟨w, Cal.of (by decide +kernel) (Nat.le_of_ble_eq_true rfl) ?_, Fr.rf, hC⟩ (fun u m => ?_)
      · apply tX7_slopes_0 (w1 := w) (hh := 0) (sl := 0) w px py hB (tt := 2) (by decide) hpt <;> (intros; first | with_reducible exact ⟨rfl, rfl⟩ | contradiction | (exfalso; omega))
      · obtain ⟨m1, ⟨n1, n2, n3, n4, n5⟩, m3, m4, m5, m6, m7, m8, m9, m10, m11, m12⟩ := id m
        refine ⟨eU u 33 0 0, Cal.of (by decide +kernel) (Nat.le_of_ble_eq_true rfl) ?_, Fr.rf, fun _ _ _ => rfl⟩
        apply tX8_slopes_0 u px py m1 (ip := 0) (by decide) (z_isPoint0 m hx hy c2) (sl := 0) hx hy (fun _ q => absurd rfl q) <;> (intros; first | with_reducible exact ⟨rfl, rfl⟩ | contradiction | (exfalso; omega))
theorem s_drop (px py : Int) (hx : eI px) (hy : eI py) : ST 0 mX7_drop mX8_drop [(0, px), (0, py)] := by
  intro w hI
  obtain ⟨hB, hM, hS, hO, -, hT, -, hC⟩ := id hI
  obtain ⟨⟨b1, b2, b3, b4, b5, b6⟩, b7, b8, b9⟩ := id hB
  have hpt := zX7_pointTrouble w px py hx hy hB
  obtain ⟨wb, d1, d2, d3, d4⟩ := y_build w hB hC
  rcases hO with ⟨o1, o2, o3, o4, o5⟩ | ⟨o1, o2, o3, hH, hmk, hne⟩
  · rw [pt_1 o2] at hpt
    refine step_q (r := (0, -1)) (v := 1) hI (by decide) ⟨w, Cal.of (by decide +kernel) (Nat.le_of_ble_eq_true rfl) ?_, Fr.rf, hC⟩ (fun u m => ?_)
    · apply tX7_drop_0 (w1 := wb) (w2 := w) (hh := 0) (sl := 0) (dd := 0) w px py hB (tt := 1) (by decide) hpt d1 <;> (intros; first | with_reducible exact ⟨rfl, rfl⟩ | contradiction | (exfalso; omega))
    · obtain ⟨m1, ⟨n1, n2, n3, n4, n5⟩, m3, m4, m5, m6, m7, m8, m9, m10, m11, m12⟩ := id m
      refine ⟨eU u 33 0 0, Cal.of (by decide +kernel) (Nat.le_of_ble_eq_true rfl) ?_, Fr.rf, fun _ _ _ => rfl⟩
      by_cases c2 : 0 ≤ px ∧ px ≤ 4 * w 2 0 ∧ 0 ≤ py ∧ py ≤ 4 * w 2 1
      · apply tX8_drop_0 u px py m1 (ip := 1) (by decide) (z_isPoint1 m hx hy c2) (w1 := u) (dd := 0) hx hy <;> (intros; first | with_reducible exact ⟨rfl, rfl⟩ | contradiction | (exfalso; omega))
      · apply tX8_drop_0 u px py m1 (ip := 0) (by decide) (z_isPoint0 m hx hy c2) (w1 := u) (dd := 0) hx hy <;> (intros; first | with_reducible exact ⟨rfl, rfl⟩ | contradiction | (exfalso; omega))
  · by_cases c2 : 0 ≤ px ∧ px ≤ 4 * w 2 0 ∧ 0 ≤ py ∧ py ≤ 4 * w 2 1
    · rw [pt_0 o2 o3 c2] at hpt
      have hHb : HH wb := HH_fr d2 hH (by decide)
      have eb : wb 2 = w 2 := d2 2 (by decide)
      obtain ⟨w1, a1, a2, a3, a4, a5, a6, a7, a8⟩ := y_height wb px py hHb d4 (by rw [eb]; exact c2)
      have hf : Fr [13, 14, 15, 16, 17, 18, 19, 20] w w1 := (d2.mono (by decide)).tr (a2.mono (by decide))
      have hH1 : HH w1 := HH_fr hf hH (by decide)
      rw [gC_fr d2 (by decide), qC_fr d2 (by decide), eb, htC_fr d2 (by decide)] at a7
      rw [htC_fr d2 (by decide)] at a1 a8
      have e2 : w1 2 = w 2 := hf 2 (by decide)
      have hs := y_X5_slopesAt w1 px py (htC w px py) hH1 a4 a5 a6 (by rw [e2]; exact c2) (by rw [gC_fr hf (by decide), qC_fr hf (by decide), e2]; exact a7) a8
      have hRC : RC w1 (wallsOf w1) := by rw [wallsOf_fr hf (by decide)]; exact RC_fr a2 (by decide) d3
      have hd := (y_X5_wallBelow w1 px py (htC w px py) hH1 a4 hRC (by rw [e2]; exact c2) (by rw [gC_fr hf (by decide), qC_fr hf (by decide), e2]; exact a7) a8).2
      rw [gC_fr hf (by decide), qC_fr hf (by decide), e2] at hs hd
      rw [wallsOf_fr hf (by decide)] at hd
      refine step_q (r := (0, drG (gC w) (w 2 0) (w 2 1) (qC w) (wallsOf w) px py)) (v := 0) hI (by decide) ⟨w1, Cal.of (by decide +kernel) (Nat.le_of_ble_eq_true rfl) ?_, hf.mono (by decide), a3⟩ (fun u m => ?_)
      · apply tX7_drop_0 (w1 := wb) (w2 := w1) (hh := htC w px py) (sl := slG (gC w) (w 2 0) (w 2 1) (qC w) px py) (dd := drG (gC w) (w 2 0) (w 2 1) (qC w) (wallsOf w) px py) w px py hB (tt := 0) (by decide) hpt d1 (fun _ => a1) (fun _ => hs) (fun _ => hd) <;> (intros; first | with_reducible exact ⟨rfl, rfl⟩ | contradiction | (exfalso; omega))
      · obtain ⟨m1, ⟨n1, n2, n3, n4, n5⟩, m3, m4, m5, m6, m7, m8, m9, m10, m11, m12⟩ := id m
        obtain ⟨u1, z1, z2, z3⟩ := z_walls m
        have mz := m.z.fw z2
        have hz := (y_X8_dropOf u1 px py mz.1 (mz.2.2.2.2.2.2.2.1 hH) (by rw [mz.2.2.2.2.1]; exact z3) (by rw [mz.2.1.1, mz.2.1.2.1]; exact c2)).2
        rw [mz.dr] at hz
        refine ⟨u1, Cal.of (by decide +kernel) (Nat.le_of_ble_eq_true rfl) ?_, z2.q.1, z2.q.2⟩
        apply tX8_drop_0 u px py m1 (ip := 1) (by decide) (z_isPoint1 m hx hy c2) (w1 := u1) (dd := drG (gC w) (w 2 0) (w 2 1) (qC w) (wallsOf w) px py) hx hy (fun _ => z1) (fun _ _ => hz) <;> (intros; first | with_reducible exact ⟨rfl, rfl⟩ | contradiction | (exfalso; omega))
    · rw [pt_2 o2 o3 c2] at hpt
      refine step_q (r := (0, -1)) (v := 2) hI (by decide) ⟨w, Cal.of (by decide +kernel) (Nat.le_of_ble_eq_true rfl) ?_, Fr.rf, hC⟩ (fun u m => ?_)
      · apply tX7_drop_0 (w1 := wb) (w2 := w) (hh := 0) (sl := 0) (dd := 0) w px py hB (tt := 2) (by decide) hpt d1 <;> (intros; first | with_reducible exact ⟨rfl, rfl⟩ | contradiction | (exfalso; omega))
      · obtain ⟨m1, ⟨n1, n2, n3, n4, n5⟩, m3, m4, m5, m6, m7, m8, m9, m10, m11, m12⟩ := id m
        obtain ⟨u1, z1, z2, z3⟩ := z_walls m
        refine ⟨eU u 33 0 0, Cal.of (by decide +kernel) (Nat.le_of_ble_eq_true rfl) ?_, Fr.rf, fun _ _ _ => rfl⟩
        apply tX8_drop_0 u px py m1 (ip := 0) (by decide) (z_isPoint0 m hx hy c2) (w1 := u1) (dd := 0) hx hy (fun _ => z1) (fun _ q => absurd rfl q) <;> (intros; first | with_reducible exact ⟨rfl, rfl⟩ | contradiction | (exfalso; omega))
