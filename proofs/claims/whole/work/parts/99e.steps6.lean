theorem s_higher (i j : Int) (hi : eI i) (hj : eI j) : ST 0 mX7_higher mX8_higher [(0, i), (0, j)] := by
  intro w hI
  obtain ⟨hB, hM, hS, hO, -, hT, -, hC⟩ := id hI
  obtain ⟨⟨b1, b2, b3, b4, b5, b6⟩, b7, b8, b9⟩ := id hB
  by_cases c : (0 ≤ i ∧ i < w 2 2) ∧ 0 ≤ j ∧ j < w 2 2
  · rcases hO with ⟨o1, o2, o3, o4, o5⟩ | ⟨o1, o2, o3, hH, hmk, hne⟩
    · exfalso; omega
    obtain ⟨w1, a1, a2⟩ := y_X7_heightOfMark w w i hH hmk ⟨Fr.rf, fun _ _ => rfl, ⟨hC.2.1, id⟩, fun _ q => q⟩ c.1
    obtain ⟨w2, d1, d2⟩ := y_X7_heightOfMark w w1 j hH hmk a2 c.2
    have e1 := htK_b w hH hmk c.1
    have e2 := htK_b w hH hmk c.2
    refine step_q (r := (0, if htK w i = htK w j then 0 else if htK w j < htK w i then 1 else -2)) (v := 0) hI (by decide) ⟨w2, Cal.of (by decide +kernel) (Nat.le_of_ble_eq_true rfl) ?_, d2.1.mono (by decide), CA_height d2 hC⟩ (fun u m => ?_)
    · apply tX7_higher_0 w i j hB (w1 := w1) (w2 := w2) (hi1 := htK w i) (hi2 := htK w j) hi hj (by omega) (by omega) (fun _ => a1) (fun _ => d1)
      · intro _ _ z; rw [if_pos z]; exact ⟨rfl, rfl⟩
      · intro _ _ z z2; rw [if_neg z, if_pos z2]; exact ⟨rfl, rfl⟩
      · intro _ _ z z2; rw [if_neg z, if_neg z2]; exact ⟨rfl, rfl⟩
      · intro _ z; exact absurd c.2 z
      · intro z; exact absurd c.1 z
    · obtain ⟨m1, ⟨n1, n2, n3, n4, n5⟩, m3, m4, m5, m6, m7, m8, m9, m10, m11, m12⟩ := id m
      have mi := hmk i c.1.1 c.1.2
      have mj := hmk j c.2.1 c.2.2
      have bi1 := b9 (2 * i) (by omega) (by omega)
      have bi2 := b9 (2 * i + 1) (by omega) (by omega)
      have bj1 := b9 (2 * j) (by omega) (by omega)
      have bj2 := b9 (2 * j + 1) (by omega) (by omega)
      have zi := (z_height m hH (px := w 5 (2 * i)) (py := w 5 (2 * i + 1)) (by omega)).2
      have zj := (z_height m hH (px := w 5 (2 * j)) (py := w 5 (2 * j + 1)) (by omega)).2
      rw [← m7 (2 * i) (by omega) (by omega), ← m7 (2 * i + 1) (by omega) (by omega)] at zi
      rw [← m7 (2 * j) (by omega) (by omega), ← m7 (2 * j + 1) (by omega) (by omega)] at zj
      have ei : htC w (u 40 (2 * i)) (u 40 (2 * i + 1)) = htK w i := by rw [m7 (2 * i) (by omega) (by omega), m7 (2 * i + 1) (by omega) (by omega)]
      have ej : htC w (u 40 (2 * j)) (u 40 (2 * j + 1)) = htK w j := by rw [m7 (2 * j) (by omega) (by omega), m7 (2 * j + 1) (by omega) (by omega)]
      rw [ei] at zi
      rw [ej] at zj
      refine ⟨eU u 33 0 0, Cal.of (by decide +kernel) (Nat.le_of_ble_eq_true rfl) ?_, Fr.rf, fun _ _ _ => rfl⟩
      apply tX8_higher_0 u i j m1 (ha := htK w i) (hb := htK w j) hi hj e1 e2 (fun _ _ _ => zi) (fun _ _ _ => zj)
      · intro z; exfalso; omega
      · intro _ _ _ z; rw [if_neg (by omega), if_pos (by omega)]; exact ⟨rfl, rfl⟩
      · intro _ _ _ z z2; rw [if_pos (by omega)]; exact ⟨rfl, rfl⟩
      · intro _ _ _ z z2; rw [if_neg (by omega), if_neg (by omega)]; exact ⟨rfl, rfl⟩
      · intro _ _ z; exfalso; omega
      · intro _ z; exfalso; omega
  · refine step_q (r := (0, -1)) (v := 1) hI (by decide) ⟨w, Cal.of (by decide +kernel) (Nat.le_of_ble_eq_true rfl) ?_, Fr.rf, hC⟩ (fun u m => ?_)
    · apply tX7_higher_0 w i j hB (w1 := w) (w2 := w) (hi1 := 0) (hi2 := 0) hi hj (by decide) (by decide) <;> (intros; first | with_reducible exact ⟨rfl, rfl⟩ | contradiction | (exfalso; omega))
    · obtain ⟨m1, ⟨n1, n2, n3, n4, n5⟩, m3, m4, m5, m6, m7, m8, m9, m10, m11, m12⟩ := id m
      refine ⟨eU u 33 0 0, Cal.of (by decide +kernel) (Nat.le_of_ble_eq_true rfl) ?_, Fr.rf, fun _ _ _ => rfl⟩
      apply tX8_higher_0 u i j m1 (ha := 0) (hb := 0) hi hj (by decide) (by decide) <;> (intros; first | with_reducible exact ⟨rfl, rfl⟩ | contradiction | (exfalso; omega))
theorem z_under {w u : eW} (m : MZ w u) (hH : HH w) (hW : 1 ≤ w 2 0 ∧ 1 ≤ w 2 1) : ∃ u1, Cal mX8_laysUnder [eR 33] u none u1 ∧ Fr [33, 45, 46, 47, 48, 49, 50, 51, 52, 53] u u1 ∧ (∀ i, i < 42 → u1 33 i = u 33 i) ∧ u1 33 56 = rdA (unS (gC w) (w 4 1 + w 4 3) (w 4 0 + w 4 2) 24) (6 * ((w 4 1 + w 4 3) * (w 4 0 + w 4 2)) * ((w 4 1 + w 4 3) * (w 4 0 + w 4 2)) * ((w 4 1 + w 4 3) * (w 4 0 + w 4 2))) ∧ u1 33 57 = rdB (unS (gC w) (w 4 1 + w 4 3) (w 4 0 + w 4 2) 24) (6 * ((w 4 1 + w 4 3) * (w 4 0 + w 4 2)) * ((w 4 1 + w 4 3) * (w 4 0 + w 4 2)) * ((w 4 1 + w 4 3) * (w 4 0 + w 4 2))) := by
  obtain ⟨u1, a1, a2, a3, a4, a5⟩ := y_X8_laysUnder u m.1 (m.2.2.2.2.2.2.2.1 hH) (by rw [m.2.1.1]; exact hW.1) (by rw [m.2.1.2.1]; exact hW.2)
  rw [m.2.2.2.1.1, m.2.2.2.1.2, m.2.2.1] at a4 a5
  exact ⟨u1, a1, a2, a3, a4, a5⟩
theorem s_under (what : Int) (hw : eI what) : ST 1 mX7_under mX8_under [(0, what)] := by
  intro w hI
  obtain ⟨hB, hM, hS, hO, -, hT, -, hC⟩ := id hI
  obtain ⟨⟨b1, b2, b3, b4, b5, b6⟩, b7, b8, b9⟩ := id hB
  rcases hO with ⟨o1, o2, o3, o4, o5⟩ | ⟨o1, o2, o3, hH, hmk, hne⟩
  · refine step_q (r := (1, -1)) (v := 1) hI (by decide) ⟨w, Cal.of (by decide +kernel) (Nat.le_of_ble_eq_true rfl) ?_, Fr.rf, hC⟩ (fun u m => ?_)
    · apply tX7_under_0 w what hB (w1 := w) hw <;> (intros; first | with_reducible exact ⟨rfl, rfl⟩ | contradiction | (exfalso; omega))
    · obtain ⟨m1, ⟨n1, n2, n3, n4, n5⟩, m3, m4, m5, m6, m7, m8, m9, m10, m11, m12⟩ := id m
      refine ⟨eU u 33 0 0, Cal.of (by decide +kernel) (Nat.le_of_ble_eq_true rfl) ?_, Fr.rf, fun _ _ _ => rfl⟩
      apply tX8_under_0 u what m1 (w1 := u) hw <;> (intros; first | with_reducible exact ⟨rfl, rfl⟩ | contradiction | (exfalso; omega))
  · obtain ⟨w1, a1, a2, a3, a4⟩ := y_X4_sumUp w hH ⟨o2, o3⟩
    by_cases c1 : what = 0 ∨ what = 1
    · refine step_q (r := (1, rX2_part32 w1 what)) (v := 0) hI (by decide) ⟨w1, Cal.of (by decide +kernel) (Nat.le_of_ble_eq_true rfl) ?_, a2.mono (by decide), CA_fr a2 (by decide) hC⟩ (fun u m => ?_)
      · apply tX7_under_0 w what hB (w1 := w1) hw (fun _ => a1) <;> (intros; first | with_reducible exact ⟨rfl, rfl⟩ | contradiction | (exfalso; omega))
      · obtain ⟨m1, ⟨n1, n2, n3, n4, n5⟩, m3, m4, m5, m6, m7, m8, m9, m10, m11, m12⟩ := id m
        obtain ⟨u1, z1, z2, z3, z4, z5⟩ := z_under m.z hH ⟨o2, o3⟩
        refine ⟨u1, Cal.of (by decide +kernel) (Nat.le_of_ble_eq_true rfl) ?_, z2.mono (by decide), fun i h1 h2 => z3 i (by omega)⟩
        unfold rX2_part32
        rw [a3, a4, ← z4, ← z5]
        apply tX8_under_0 u what m1 (w1 := u1) hw (fun _ => z1)
        · intro z; exfalso; omega
        · intro _ _ z; rw [if_pos z]; exact ⟨rfl, rfl⟩
        · intro _ _ z; rw [if_neg z]; exact ⟨rfl, rfl⟩
        · intro _ z; exfalso; omega
    · refine step_q (r := (1, -1)) (v := 1) hI (by decide) ⟨w, Cal.of (by decide +kernel) (Nat.le_of_ble_eq_true rfl) ?_, Fr.rf, hC⟩ (fun u m => ?_)
      · apply tX7_under_0 w what hB (w1 := w1) hw (fun _ => a1) <;> (intros; first | with_reducible exact ⟨rfl, rfl⟩ | contradiction | (exfalso; omega))
      · obtain ⟨m1, ⟨n1, n2, n3, n4, n5⟩, m3, m4, m5, m6, m7, m8, m9, m10, m11, m12⟩ := id m
        obtain ⟨u1, z1, z2, z3, z4, z5⟩ := z_under m.z hH ⟨o2, o3⟩
        refine ⟨eU u 33 0 0, Cal.of (by decide +kernel) (Nat.le_of_ble_eq_true rfl) ?_, Fr.rf, fun _ _ _ => rfl⟩
        apply tX8_under_0 u what m1 (w1 := u1) hw (fun _ => z1) <;> (intros; first | with_reducible exact ⟨rfl, rfl⟩ | contradiction | (exfalso; omega))
theorem s_about (k : Int) (hk : eI k) : ST 0 mX7_about mX8_about [(0, k)] := by
  intro w hI
  obtain ⟨hB, hM, hS, hO, -, hT, -, hC⟩ := id hI
  obtain ⟨⟨b1, b2, b3, b4, b5, b6⟩, b7, b8, b9⟩ := id hB
  obtain ⟨w1, a1, a2, a3, a4⟩ := y_build w hB hC
  have hcI := y_X0_countInside w hB
  rcases hO with ⟨o1, o2, o3, o4, o5⟩ | ⟨o1, o2, o3, hH, hmk, hne⟩
  · refine step_q (r := (0, -1)) (v := 1) hI (by decide) ⟨w, Cal.of (by decide +kernel) (Nat.le_of_ble_eq_true rfl) ?_, Fr.rf, hC⟩ (fun u m => ?_)
    · apply tX7_about_0 w k hB (w1 := w1) (w2 := w) (w3 := w) (ci := cnt2 w) (cl := 0) hk a1 (fun q => absurd q (by omega)) (fun q => absurd q (by omega)) hcI <;> (intros; first | with_reducible exact ⟨rfl, rfl⟩ | contradiction | (exfalso; omega))
    · obtain ⟨m1, ⟨n1, n2, n3, n4, n5⟩, m3, m4, m5, m6, m7, m8, m9, m10, m11, m12⟩ := id m
      refine ⟨eU u 33 0 0, Cal.of (by decide +kernel) (Nat.le_of_ble_eq_true rfl) ?_, Fr.rf, fun _ _ _ => rfl⟩
      obtain ⟨mm, hmm⟩ : ∃ mm, Cal mX8_many [eR 33] (eU u 33 0 0) (some (0, mm)) (eU u 33 0 0) := ⟨_, y_X8_many (eU u 33 0 0)⟩
      apply tX8_about_0 u k m1 (w1 := u) (w2 := u) (w3 := u) (mm := mm) hk (fun q => absurd (n5.trans o1) q) (fun q => absurd (n5.trans o1) q) (fun q => absurd (n5.trans o1) q) hmm <;> (intros; first | with_reducible exact ⟨rfl, rfl⟩ | contradiction | (exfalso; omega))
  · obtain ⟨w2, e1, e2, e3, e4, e5⟩ := y_events w hH ⟨o2, o3⟩ hC
    obtain ⟨w3, n, l1, l2, l3, l4⟩ := y_X4_countLeft w 0 1 hH (by decide) (by decide)
    have cls : ∀ {r : eV} {wx : eW} {v : Int}, Go mX7_about 0 [(0, eR 0), (1, (0, k))] [] w (some r) (eU wx 0 2 v) → Cal mX7_about [eR 0, (0, k)] w (some r) (eU wx 0 2 v) := fun h => Cal.of (by decide +kernel) (Nat.le_of_ble_eq_true rfl) h
    have mod : ∀ u, MZ w u → ∃ u1 u2 u3 : eW, (Cal mX8_laysWalls [eR 33] (eU u 33 0 0) none u1 ∧ Cal mX8_laysEvents [eR 33] (eU u 33 0 0) none u2 ∧ Cal mX8_lays [eR 33, (0, 0), (0, 1)] (eU u 33 0 0) none u3 ∧ Cal mX8_many [eR 33] (eU u 33 0 0) (some (0, cnt2 w)) (eU u 33 0 0)) ∧ (u1 33 33 = wallsOf w 0 0 ∧ u2 33 55 = evN (gC w) (w 4 1 + w 4 3) (w 4 0 + w 4 2) 24 ∧ u3 33 44 = (n : Int)) ∧ (Fr [33, 41, 42, 43, 44, 45, 46, 47, 48, 49, 50, 51, 52, 53, 54, 55, 56, 57, 58, 59, 60] (eU u 33 0 0) u1 ∧ ∀ i, 3 ≤ i → i ≤ 28 → u1 33 i = eU u 33 0 0 33 i) ∧ (Fr [33, 41, 42, 43, 44, 45, 46, 47, 48, 49, 50, 51, 52, 53, 54, 55, 56, 57, 58, 59, 60] (eU u 33 0 0) u2 ∧ ∀ i, 3 ≤ i → i ≤ 28 → u2 33 i = eU u 33 0 0 33 i) ∧ (Fr [33, 41, 42, 43, 44, 45, 46, 47, 48, 49, 50, 51, 52, 53, 54, 55, 56, 57, 58, 59, 60] (eU u 33 0 0) u3 ∧ ∀ i, 3 ≤ i → i ≤ 28 → u3 33 i = eU u 33 0 0 33 i) := by
      intro u m
      obtain ⟨u1, x1, x2, x3⟩ := z_walls m
      obtain ⟨u2, y1, y2, y3, y4, y5⟩ := z_events m hH ⟨o2, o3⟩
      obtain ⟨u3, sX, iX, sY, iY, n', z1, z2⟩ := y_X8_lays (eU u 33 0 0) 0 1 m.z.1 (m.z.2.2.2.2.2.2.2.1 hH) (by decide) (by decide)
      have e := z_mX m.z 0 1
      have z3 := z2.2.2.2.2.2.2.1
      rw [m.z.2.2.1, e.1, e.2.2.1] at z3
      have en : u3 33 44 = (n : Int) := by rw [z2.2.2.2.2.2.2.2.1, isNp_one z3 l1]
      have hm := y_X8_many (eU u 33 0 0)
      rw [m.z.2.2.2.2.2.2.2.2.1 hH] at hm
      exact ⟨u1, u2, u3, ⟨x1, y1, z1, hm⟩, ⟨x3.1, y4, en⟩, x2.q, y2, z2.1.q⟩
    have pick : ∀ (r : Int) (wx : eW) (v : Int), (0 ≤ v ∧ v ≤ 5 ∧ v ≠ 4) → Go mX7_about 0 [(0, eR 0), (1, (0, k))] [] w (some (0, r)) (eU wx 0 2 v) → Fr [13, 14, 15, 16, 17, 18, 19, 20, 21, 22, 23, 24, 25, 26, 27, 28, 29, 30, 31, 32] w wx → CA wx → SMo mX8_about [(0, k)] w (0, r) v → ∃ (x : Int) (w1 w2 : eW), Cal mX7_about (eR 0 :: [(0, k)]) w (some (0, x)) w1 ∧ Cal mX8_about (eR 33 :: [(0, k)]) w1 (some (0, x)) w2 ∧ IV w2 := fun r wx v hv g f hc hm => step_q (r := (0, r)) hI hv ⟨wx, cls g, f, hc⟩ hm
    by_cases c0 : k = 0
    · refine pick (w 2 0) w 0 (by decide) ?_ Fr.rf hC (fun u m => ?_)
      · apply tX7_about_0 w k hB (w1 := w1) (w2 := w2) (w3 := w3) (ci := cnt2 w) (cl := (n : Int)) hk a1 (fun _ => e1) (fun _ => l3) hcI <;> (intros; first | with_reducible exact ⟨rfl, rfl⟩ | contradiction | (exfalso; omega))
      · obtain ⟨m1, ⟨n1, n2, n3, n4, n5⟩, m3, m4, m5, m6, m7, m8, m9, m10, m11, m12⟩ := id m
        obtain ⟨u1, u2, u3, q1, q2, q3, q4, q5⟩ := mod u m
        refine ⟨eU u 33 0 0, Cal.of (by decide +kernel) (Nat.le_of_ble_eq_true rfl) ?_, Fr.rf, fun _ _ _ => rfl⟩
        rw [← n1]
        apply tX8_about_0 u k m1 (w1 := u1) (w2 := u2) (w3 := u3) (mm := cnt2 w) hk (fun _ => q1.1) (fun _ => q1.2.1) (fun _ => q1.2.2.1) q1.2.2.2 <;> (intros; first | with_reducible exact ⟨rfl, rfl⟩ | contradiction | (exfalso; omega))
    by_cases c1 : k = 1
    · refine pick (w 2 1) w 0 (by decide) ?_ Fr.rf hC (fun u m => ?_)
      · apply tX7_about_0 w k hB (w1 := w1) (w2 := w2) (w3 := w3) (ci := cnt2 w) (cl := (n : Int)) hk a1 (fun _ => e1) (fun _ => l3) hcI <;> (intros; first | with_reducible exact ⟨rfl, rfl⟩ | contradiction | (exfalso; omega))
      · obtain ⟨m1, ⟨n1, n2, n3, n4, n5⟩, m3, m4, m5, m6, m7, m8, m9, m10, m11, m12⟩ := id m
        obtain ⟨u1, u2, u3, q1, q2, q3, q4, q5⟩ := mod u m
        refine ⟨eU u 33 0 0, Cal.of (by decide +kernel) (Nat.le_of_ble_eq_true rfl) ?_, Fr.rf, fun _ _ _ => rfl⟩
        rw [← n2]
        apply tX8_about_0 u k m1 (w1 := u1) (w2 := u2) (w3 := u3) (mm := cnt2 w) hk (fun _ => q1.1) (fun _ => q1.2.1) (fun _ => q1.2.2.1) q1.2.2.2 <;> (intros; first | with_reducible exact ⟨rfl, rfl⟩ | contradiction | (exfalso; omega))
    by_cases c2 : k = 2
    · refine pick (cnt2 w) w 0 (by decide) ?_ Fr.rf hC (fun u m => ?_)
      · apply tX7_about_0 w k hB (w1 := w1) (w2 := w2) (w3 := w3) (ci := cnt2 w) (cl := (n : Int)) hk a1 (fun _ => e1) (fun _ => l3) hcI <;> (intros; first | with_reducible exact ⟨rfl, rfl⟩ | contradiction | (exfalso; omega))
      · obtain ⟨m1, ⟨n1, n2, n3, n4, n5⟩, m3, m4, m5, m6, m7, m8, m9, m10, m11, m12⟩ := id m
        obtain ⟨u1, u2, u3, q1, q2, q3, q4, q5⟩ := mod u m
        refine ⟨eU u 33 0 0, Cal.of (by decide +kernel) (Nat.le_of_ble_eq_true rfl) ?_, Fr.rf, fun _ _ _ => rfl⟩
        apply tX8_about_0 u k m1 (w1 := u1) (w2 := u2) (w3 := u3) (mm := cnt2 w) hk (fun _ => q1.1) (fun _ => q1.2.1) (fun _ => q1.2.2.1) q1.2.2.2 <;> (intros; first | with_reducible exact ⟨rfl, rfl⟩ | contradiction | (exfalso; omega))
    by_cases c3 : k = 3
    · refine pick (w1 13 3) w1 0 (by decide) ?_ (a2.mono (by decide)) a4 (fun u m => ?_)
      · apply tX7_about_0 w k hB (w1 := w1) (w2 := w2) (w3 := w3) (ci := cnt2 w) (cl := (n : Int)) hk a1 (fun _ => e1) (fun _ => l3) hcI <;> (intros; first | with_reducible exact ⟨rfl, rfl⟩ | contradiction | (exfalso; omega))
      · obtain ⟨m1, ⟨n1, n2, n3, n4, n5⟩, m3, m4, m5, m6, m7, m8, m9, m10, m11, m12⟩ := id m
        obtain ⟨u1, u2, u3, q1, q2, q3, q4, q5⟩ := mod u m
        refine ⟨u1, Cal.of (by decide +kernel) (Nat.le_of_ble_eq_true rfl) ?_, q3.1, q3.2⟩
        rw [← (q2.1.trans a3.2.1.symm)]
        apply tX8_about_0 u k m1 (w1 := u1) (w2 := u2) (w3 := u3) (mm := cnt2 w) hk (fun _ => q1.1) (fun _ => q1.2.1) (fun _ => q1.2.2.1) q1.2.2.2 <;> (intros; first | with_reducible exact ⟨rfl, rfl⟩ | contradiction | (exfalso; omega))
    by_cases c4 : k = 4
    · refine pick (w 2 2) w 0 (by decide) ?_ Fr.rf hC (fun u m => ?_)
      · apply tX7_about_0 w k hB (w1 := w1) (w2 := w2) (w3 := w3) (ci := cnt2 w) (cl := (n : Int)) hk a1 (fun _ => e1) (fun _ => l3) hcI <;> (intros; first | with_reducible exact ⟨rfl, rfl⟩ | contradiction | (exfalso; omega))
      · obtain ⟨m1, ⟨n1, n2, n3, n4, n5⟩, m3, m4, m5, m6, m7, m8, m9, m10, m11, m12⟩ := id m
        obtain ⟨u1, u2, u3, q1, q2, q3, q4, q5⟩ := mod u m
        refine ⟨eU u 33 0 0, Cal.of (by decide +kernel) (Nat.le_of_ble_eq_true rfl) ?_, Fr.rf, fun _ _ _ => rfl⟩
        rw [← n3]
        apply tX8_about_0 u k m1 (w1 := u1) (w2 := u2) (w3 := u3) (mm := cnt2 w) hk (fun _ => q1.1) (fun _ => q1.2.1) (fun _ => q1.2.2.1) q1.2.2.2 <;> (intros; first | with_reducible exact ⟨rfl, rfl⟩ | contradiction | (exfalso; omega))
    by_cases c5 : k = 5
    · refine pick (w2 24 8) w2 0 (by decide) ?_ (e2.mono (by decide)) e3 (fun u m => ?_)
      · apply tX7_about_0 w k hB (w1 := w1) (w2 := w2) (w3 := w3) (ci := cnt2 w) (cl := (n : Int)) hk a1 (fun _ => e1) (fun _ => l3) hcI <;> (intros; first | with_reducible exact ⟨rfl, rfl⟩ | contradiction | (exfalso; omega))
      · obtain ⟨m1, ⟨n1, n2, n3, n4, n5⟩, m3, m4, m5, m6, m7, m8, m9, m10, m11, m12⟩ := id m
        obtain ⟨u1, u2, u3, q1, q2, q3, q4, q5⟩ := mod u m
        refine ⟨u2, Cal.of (by decide +kernel) (Nat.le_of_ble_eq_true rfl) ?_, q4.1, q4.2⟩
        rw [← (q2.2.1.trans e4.symm)]
        apply tX8_about_0 u k m1 (w1 := u1) (w2 := u2) (w3 := u3) (mm := cnt2 w) hk (fun _ => q1.1) (fun _ => q1.2.1) (fun _ => q1.2.2.1) q1.2.2.2 <;> (intros; first | with_reducible exact ⟨rfl, rfl⟩ | contradiction | (exfalso; omega))
    by_cases c6 : k = 6
    · refine pick ((n : Int)) w3 0 (by decide) ?_ (l4.mono (by decide)) (CA_fr l4 (by decide) hC) (fun u m => ?_)
      · apply tX7_about_0 w k hB (w1 := w1) (w2 := w2) (w3 := w3) (ci := cnt2 w) (cl := (n : Int)) hk a1 (fun _ => e1) (fun _ => l3) hcI <;> (intros; first | with_reducible exact ⟨rfl, rfl⟩ | contradiction | (exfalso; omega))
      · obtain ⟨m1, ⟨n1, n2, n3, n4, n5⟩, m3, m4, m5, m6, m7, m8, m9, m10, m11, m12⟩ := id m
        obtain ⟨u1, u2, u3, q1, q2, q3, q4, q5⟩ := mod u m
        refine ⟨u3, Cal.of (by decide +kernel) (Nat.le_of_ble_eq_true rfl) ?_, q5.1, q5.2⟩
        rw [← q2.2.2]
        apply tX8_about_0 u k m1 (w1 := u1) (w2 := u2) (w3 := u3) (mm := cnt2 w) hk (fun _ => q1.1) (fun _ => q1.2.1) (fun _ => q1.2.2.1) q1.2.2.2 <;> (intros; first | with_reducible exact ⟨rfl, rfl⟩ | contradiction | (exfalso; omega))
    by_cases c7 : k = 7
    · refine pick (w 6 1) w 0 (by decide) ?_ Fr.rf hC (fun u m => ?_)
      · apply tX7_about_0 w k hB (w1 := w1) (w2 := w2) (w3 := w3) (ci := cnt2 w) (cl := (n : Int)) hk a1 (fun _ => e1) (fun _ => l3) hcI <;> (intros; first | with_reducible exact ⟨rfl, rfl⟩ | contradiction | (exfalso; omega))
      · obtain ⟨m1, ⟨n1, n2, n3, n4, n5⟩, m3, m4, m5, m6, m7, m8, m9, m10, m11, m12⟩ := id m
        obtain ⟨u1, u2, u3, q1, q2, q3, q4, q5⟩ := mod u m
        refine ⟨eU u 33 0 0, Cal.of (by decide +kernel) (Nat.le_of_ble_eq_true rfl) ?_, Fr.rf, fun _ _ _ => rfl⟩
        rw [← n4]
        apply tX8_about_0 u k m1 (w1 := u1) (w2 := u2) (w3 := u3) (mm := cnt2 w) hk (fun _ => q1.1) (fun _ => q1.2.1) (fun _ => q1.2.2.1) q1.2.2.2 <;> (intros; first | with_reducible exact ⟨rfl, rfl⟩ | contradiction | (exfalso; omega))
    refine pick (-1) w 1 (by decide) ?_ Fr.rf hC (fun u m => ?_)
    · apply tX7_about_0 w k hB (w1 := w1) (w2 := w2) (w3 := w3) (ci := cnt2 w) (cl := (n : Int)) hk a1 (fun _ => e1) (fun _ => l3) hcI <;> (intros; first | with_reducible exact ⟨rfl, rfl⟩ | contradiction | (exfalso; omega))
    · obtain ⟨m1, ⟨n1, n2, n3, n4, n5⟩, m3, m4, m5, m6, m7, m8, m9, m10, m11, m12⟩ := id m
      obtain ⟨u1, u2, u3, q1, q2, q3, q4, q5⟩ := mod u m
      refine ⟨eU u 33 0 0, Cal.of (by decide +kernel) (Nat.le_of_ble_eq_true rfl) ?_, Fr.rf, fun _ _ _ => rfl⟩
      apply tX8_about_0 u k m1 (w1 := u1) (w2 := u2) (w3 := u3) (mm := cnt2 w) hk (fun _ => q1.1) (fun _ => q1.2.1) (fun _ => q1.2.2.1) q1.2.2.2 <;> (intros; first | with_reducible exact ⟨rfl, rfl⟩ | contradiction | (exfalso; omega))
