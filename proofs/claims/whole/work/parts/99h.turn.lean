theorem s_runs (side v : Int) (hs : eI side) (hv : eI v) : ST 0 mX7_runs mX8_runs [(0, side), (0, v)] := by
  intro w hI
  obtain ⟨hB, hM, hS, hO, -, hT, hP, hC⟩ := id hI
  obtain ⟨⟨b1, b2, b3, b4, b5, b6⟩, b7, b8, b9⟩ := id hB
  have zc := zX7_runs w side v hs hv hB hP.1
  rcases hO with ⟨o1, o2, o3, o4, o5⟩ | ⟨o1, o2, o3, hH, hmk, hne⟩
  · refine step_q (r := (0, -1)) (v := 1) hI (by decide) ⟨w, Cal.as zc ?_ ?_, Fr.rf, hC⟩ (fun u m => ?_)
    · unfold rX7_runs; rw [if_neg (by omega)]
    · unfold wX7_runs; rw [if_neg (by omega)]
    · obtain ⟨m1, ⟨n1, n2, n3, n4, n5⟩, m3, m4, m5, m6, m7, m8, m9, m10, m11, m12⟩ := id m
      refine ⟨eU u 33 0 0, Cal.as (zX8_runs u side v hs hv m1) ?_ ?_, Fr.rf, fun _ _ _ => rfl⟩
      · unfold rX8_runs; rw [if_pos (by omega)]
      · unfold wX8_runs; rw [if_pos (by omega)]
  · by_cases c1 : 0 ≤ side ∧ side < 4
    · by_cases c2 : 1 ≤ v ∧ v ≤ 9
      · have hHb := HH_begin hH
        have eb4 : wX7_beginAct w 4 = w 4 := Fr_begin w 4 (by decide)
        have fc4 : Fr [4] (wX7_beginAct w) (eU (wX7_beginAct w) 4 side v) := Fr.put Fr.rf (by decide)
        have hHc : HH (eU (wX7_beginAct w) 4 side v) := by
          obtain ⟨⟨d1, d2, d3, d4⟩, d5, d6⟩ := hHb
          refine ⟨⟨?_, ?_, fun i i1 i2 => ?_, ?_⟩, fun i i1 i2 => ?_, ?_⟩
          · rw [fc4 2 (by decide)]; exact d1
          · rw [fc4 3 (by decide)]; exact d2
          · rw [eU_get]; split
            · omega
            · exact d3 i i1 i2
          · rw [fc4 5 (by decide)]; exact d4
          · rw [eU_get]; split
            · omega
            · exact d5 i i1 i2
          · rw [fc4 2 (by decide), fc4 3 (by decide)]; exact d6
        have fw : Fr [4, 6, 7, 13, 16, 24] w (eU (wX7_beginAct w) 4 side v) := ((Fr_begin w).mono (by decide)).tr (fc4.mono (by decide))
        have e4 : ∀ s, eU (wX7_beginAct w) 4 side v 4 s = if s = side then v else w 4 s := fun s => by rw [eU_get, eb4]
        have ew : wX7_runs w side v = eU (eU (wX7_beginAct w) 4 side v) 0 2 0 := by
          unfold wX7_runs; rw [if_pos (by omega), if_pos c1, if_neg (by omega), if_neg (by omega), if_neg (by omega), if_pos c1.2]
        have er : rX7_runs w side v = w 4 side := by
          unfold rX7_runs; rw [if_pos (by omega), if_pos c1, if_neg (by omega), if_neg (by omega), if_neg (by omega), if_pos c1.2, eb4]
        generalize eC : eU (wX7_beginAct w) 4 side v = wc at *
        have m : MZ w (eU wc 0 2 0) := MZ.of hB hM hS hI.2.2.2.2.1.2 ((fw.mono (S' := [0, 4, 6, 7, 13, 16, 24]) (by decide)).put (i := 2) (v := 0) (by decide)) (by decide)
        obtain ⟨m1, ⟨n1, n2, n3, n4, n5⟩, m3, m4, m5, m6, m7, m8, m9, m10, m11, m12⟩ := id m
        have r38 : wRem (eU (eU wc 0 2 0) 33 0 0) 38 = w 38 := by rw [wRem_now, eU_ne (by decide), eU_ne (by decide), fw 38 (by decide)]
        have hIV : IV (eU (eU (eU (wRem (eU (eU wc 0 2 0) 33 0 0)) 38 (140 + side) v) 33 1 0) 33 2 (-1)) := by
          have ef : ∀ j, eU (eU (eU (wRem (eU (eU wc 0 2 0) 33 0 0)) 38 (140 + side) v) 33 1 0) 33 2 (-1) 38 j = if j = 140 + side then v else w 38 j := fun j => by
            rw [eU_ne (by decide), eU_ne (by decide), eU_get, r38]
          refine IV_act2 hI o1 hH hne (fc4.mono (by decide)) ?_ hHc ?_ (fun x' y' x1 x2 y1 y2 => ?_) (fun s s1 s2 => ?_)
          · intro k hk
            have n38 : k ≠ 38 := fun q => hk (by rw [q]; decide)
            by_cases d : k = 33
            · subst d
              funext i
              rw [eU_get, eU_get, eU_get, eU_get, eU_ne (by decide)]
            · rw [eU_ne d, eU_ne d, eU_ne n38, eU_ne d, eU_ne d]
          · obtain ⟨x, y, q⟩ := hne
            exact ⟨x, y, by rw [insC_fr fw (by decide)]; exact q⟩
          · rw [ef, if_neg (by omega), fw 3 (by decide)]
            exact hS.cells x' y' x1 x2 y1 y2
          · rw [ef, e4]
            by_cases d : s = side
            · rw [if_pos d, if_pos (by omega)]
            · rw [if_neg d, if_neg (by omega)]; exact hS.speeds s s1 s2
        refine ⟨w 4 side, eU wc 0 2 0, _, Cal.as zc ?_ ?_, Cal.as (zX8_runs (eU wc 0 2 0) side v hs hv m1) ?_ ?_, hIV⟩
        · rw [er]
        · exact ew
        · unfold rX8_runs; rw [if_neg (by omega), if_pos (by omega), if_pos c2, r38, hS.speeds side c1.1 c1.2]
        · unfold wX8_runs; rw [if_neg (by omega), if_pos (by omega), if_pos c2]
      · refine step_q (r := (0, -1)) (v := 2) hI (by decide) ⟨w, Cal.as zc ?_ ?_, Fr.rf, hC⟩ (fun u m => ?_)
        · unfold rX7_runs; rw [if_pos (by omega), if_pos c1]; (repeat' split) <;> first | rfl | (exfalso; omega)
        · unfold wX7_runs; rw [if_pos (by omega), if_pos c1]; (repeat' split) <;> first | rfl | (exfalso; omega)
        · obtain ⟨m1, ⟨n1, n2, n3, n4, n5⟩, m3, m4, m5, m6, m7, m8, m9, m10, m11, m12⟩ := id m
          refine ⟨eU u 33 0 0, Cal.as (zX8_runs u side v hs hv m1) ?_ ?_, Fr.rf, fun _ _ _ => rfl⟩
          · unfold rX8_runs; rw [if_neg (by omega), if_pos (by omega), if_neg c2]
          · unfold wX8_runs; rw [if_neg (by omega), if_pos (by omega), if_neg c2]
    · refine step_q (r := (0, -1)) (v := 1) hI (by decide) ⟨w, Cal.as zc ?_ ?_, Fr.rf, hC⟩ (fun u m => ?_)
      · unfold rX7_runs; rw [if_pos (by omega), if_neg c1]
      · unfold wX7_runs; rw [if_pos (by omega), if_neg c1]
      · obtain ⟨m1, ⟨n1, n2, n3, n4, n5⟩, m3, m4, m5, m6, m7, m8, m9, m10, m11, m12⟩ := id m
        refine ⟨eU u 33 0 0, Cal.as (zX8_runs u side v hs hv m1) ?_ ?_, Fr.rf, fun _ _ _ => rfl⟩
        · unfold rX8_runs; rw [if_neg (by omega), if_neg (by omega)]
        · unfold wX8_runs; rw [if_neg (by omega), if_neg (by omega)]
theorem bit_out {w : eW} (hH : HH w) {x y : Int} (hx : 0 ≤ x ∧ x < 14) (hy : 0 ≤ y ∧ y < 10) (h : ¬ (x < w 2 0 ∧ y < w 2 1)) : bitv (w 3 y) x = 0 := by
  rcases bitv_01 (w 3 y) x with q | q
  · exact q
  · exact absurd (hH.2.2 y x hy.1 hy.2 hx.1 hx.2 q) h
/-- a turned house: the row that now is y, the place that now is x -/
theorem turn_end {w wc : eW} (what : Int) (hI : IV w) (o1 : w 33 28 = 1) (hH : HH w) (hne : ∃ x y, insC w x y) (hw : what = 0 ∨ what = 1) (fc3 : Fr [3] (wX7_beginAct w) wc) (hr : ∀ y, 0 ≤ y → y < 10 → 0 ≤ wc 3 y ∧ wc 3 y < 16384) (hb : ∀ x y, 0 ≤ x → x < 14 → 0 ≤ y → y < 10 → bitv (wc 3 y) x = if x < w 2 0 ∧ y < w 2 1 then (if what = 1 then bitv (w 3 (w 2 1 - 1 - y)) x else bitv (w 3 y) (w 2 0 - 1 - x)) else 0) : ∃ w2, Cal mX8_turn [eR 33, (0, what)] (eU wc 0 2 0) (some (0, 1)) w2 ∧ IV w2 := by
  obtain ⟨hB, hM, hS, hO, -, hT, hP, hC⟩ := id hI
  obtain ⟨⟨b1, b2, b3, b4, b5, b6⟩, b7, b8, b9⟩ := id hB
  have fw : Fr [3, 6, 7, 13, 16, 24] w wc := ((Fr_begin w).mono (by decide)).tr (fc3.mono (by decide))
  have m : MZ w (eU wc 0 2 0) := MZ.of hB hM hS hI.2.2.2.2.1.2 ((fw.mono (S' := [0, 3, 6, 7, 13, 16, 24]) (by decide)).put (i := 2) (v := 0) (by decide)) (by decide)
  obtain ⟨m1, ⟨n1, n2, n3, n4, n5⟩, m3, m4, m5, m6, m7, m8, m9, m10, m11, m12⟩ := id m
  obtain ⟨w2, z1, z2, z3⟩ := y_X8_turn (eU wc 0 2 0) what m1 (by omega) hw
  have eb2 : wX7_beginAct w 2 = w 2 := Fr_begin w 2 (by decide)
  refine ⟨w2, z1, IV_act2 hI o1 hH hne (fc3.mono (by decide)) (z2.mono (by decide)) (HH_rows (HH_begin hH) fc3 (fun y y1 y2 => ⟨hr y y1 y2, fun x x1 x2 q => ?_⟩)) ?_ (fun x y x1 x2 y1 y2 => ?_) (fun s s1 s2 => ?_)⟩
  · rw [hb x y x1 x2 y1 y2] at q
    rw [eb2]
    by_cases c : x < w 2 0 ∧ y < w 2 1
    · exact c
    · rw [if_neg c] at q; exact absurd q (by decide)
  · obtain ⟨x, y, q1, q2, q3, q4, q5⟩ := hne
    rcases hw with q | q
    · refine ⟨w 2 0 - 1 - x, y, by omega, by rw [fw 2 (by decide)]; omega, q3, by rw [fw 2 (by decide)]; exact q4, ?_⟩
      have h := hb (w 2 0 - 1 - x) y (by omega) (by omega) q3 (by omega)
      rw [if_pos (by omega), if_neg (by omega), show w 2 0 - 1 - (w 2 0 - 1 - x) = x by omega] at h
      exact h.trans q5
    · refine ⟨x, w 2 1 - 1 - y, q1, by rw [fw 2 (by decide)]; exact q2, by omega, by rw [fw 2 (by decide)]; omega, ?_⟩
      have h := hb x (w 2 1 - 1 - y) q1 (by omega) (by omega) (by omega)
      rw [if_pos (by omega), if_pos q, show w 2 1 - 1 - (w 2 1 - 1 - y) = y by omega] at h
      exact h.trans q5
  · rw [hb x y x1 x2 y1 y2, z3 (14 * y + x) (by omega) (by omega), show (14 * y + x) % 14 = x by omega, show (14 * y + x) / 14 = y by omega, n1, n2]
    by_cases c : x < w 2 0 ∧ y < w 2 1
    · rw [if_pos c, if_pos (by omega)]
      unfold tnI
      rw [show (14 * y + x) % 14 = x by omega, show (14 * y + x) / 14 = y by omega, n1, n2]
      by_cases d : what = 1
      · rw [if_pos d, if_pos d, m10 x _ x1 x2 (by omega) (by omega)]
      · rw [if_neg d, if_neg d, m10 _ y (by omega) (by omega) y1 y2]
    · rw [if_neg c, if_neg (by omega), m10 x y x1 x2 y1 y2]
      exact bit_out hH ⟨x1, x2⟩ ⟨y1, y2⟩ c
  · rw [z3 (140 + s) (by omega) (by omega), if_neg (by omega), m11 s s1 s2, fw 4 (by decide)]
theorem s_turn (what : Int) (hw : eI what) : ST 0 mX7_turn mX8_turn [(0, what)] := by
  intro w hI
  obtain ⟨hB, hM, hS, hO, -, hT, hP, hC⟩ := id hI
  obtain ⟨⟨b1, b2, b3, b4, b5, b6⟩, b7, b8, b9⟩ := id hB
  obtain ⟨wm, p1, p2, p3⟩ := y_X0_mirror (wX7_beginAct w) (HB_begin hB)
  obtain ⟨wo, q1, q2, q3⟩ := y_X0_overturn (wX7_beginAct w) (HB_begin hB)
  have zc := zX7_turn w wm wo what hw hB hP.1 p1 q1
  have eb2 : wX7_beginAct w 2 = w 2 := Fr_begin w 2 (by decide)
  have eb3 : wX7_beginAct w 3 = w 3 := Fr_begin w 3 (by decide)
  rw [eb2, eb3] at p3 q3
  rcases hO with ⟨o1, o2, o3, o4, o5⟩ | ⟨o1, o2, o3, hH, hmk, hne⟩
  · refine step_q (r := (0, 0)) (v := 1) hI (by decide) ⟨w, Cal.as zc ?_ ?_, Fr.rf, hC⟩ (fun u m => ?_)
    · unfold rX7_turn; rw [if_neg (by omega)]
    · unfold wX7_turn; rw [if_neg (by omega)]
    · obtain ⟨m1, ⟨n1, n2, n3, n4, n5⟩, m3, m4, m5, m6, m7, m8, m9, m10, m11, m12⟩ := id m
      refine ⟨eU u 33 0 0, Cal.of (by decide +kernel) (Nat.le_of_ble_eq_true rfl) ?_, Fr.rf, fun _ _ _ => rfl⟩
      apply tX8_turn_0 u what hw m1 <;> (intros; first | with_reducible exact ⟨rfl, rfl⟩ | contradiction | (exfalso; omega))
  · by_cases c1 : what = 0 ∨ what = 1
    · by_cases c2 : what = 0
      · obtain ⟨w2, t1, t2⟩ := turn_end (wc := wm) what hI o1 hH hne c1 p2 (fun y y1 y2 => by
            have h := p3 y y1 y2
            by_cases c : y < w 2 1
            · rw [if_pos c] at h; exact h.1
            · rw [if_neg c] at h; rw [h]; exact b7 y y1 y2) (fun x y x1 x2 y1 y2 => by
            have h := p3 y y1 y2
            by_cases c : y < w 2 1
            · rw [if_pos c] at h
              rw [h.2 x x1 x2]
              by_cases d : x < w 2 0
              · rw [if_pos d, if_pos ⟨d, c⟩, if_neg (by omega)]
              · rw [if_neg d, if_neg (fun z => d z.1)]
            · rw [if_neg c] at h
              rw [h, if_neg (fun z => c z.2)]
              exact bit_out hH ⟨x1, x2⟩ ⟨y1, y2⟩ (fun z => c z.2))
        refine ⟨1, eU wm 0 2 0, w2, Cal.as zc ?_ ?_, t1, t2⟩
        · unfold rX7_turn; rw [if_pos (by omega), if_pos c1]
        · unfold wX7_turn; rw [if_pos (by omega), if_pos c1, if_pos c2]
      · obtain ⟨w2, t1, t2⟩ := turn_end (wc := wo) what hI o1 hH hne c1 q2 (fun y y1 y2 => by
            rw [q3 y y1 y2]
            split
            · exact b7 _ (by omega) (by omega)
            · exact b7 y y1 y2) (fun x y x1 x2 y1 y2 => by
            rw [q3 y y1 y2]
            by_cases c : y < w 2 1
            · rw [if_pos c]
              by_cases d : x < w 2 0
              · rw [if_pos ⟨d, c⟩, if_pos (by omega)]
              · rw [if_neg (fun z => d z.1)]
                exact bit_out hH ⟨x1, x2⟩ (by omega) (fun z => d z.1)
            · rw [if_neg c, if_neg (fun z => c z.2)]
              exact bit_out hH ⟨x1, x2⟩ ⟨y1, y2⟩ (fun z => c z.2))
        refine ⟨1, eU wo 0 2 0, w2, Cal.as zc ?_ ?_, t1, t2⟩
        · unfold rX7_turn; rw [if_pos (by omega), if_pos c1]
        · unfold wX7_turn; rw [if_pos (by omega), if_pos c1, if_neg c2]
    · refine step_q (r := (0, 0)) (v := 1) hI (by decide) ⟨w, Cal.as zc ?_ ?_, Fr.rf, hC⟩ (fun u m => ?_)
      · unfold rX7_turn; rw [if_pos (by omega), if_neg c1]
      · unfold wX7_turn; rw [if_pos (by omega), if_neg c1]
      · obtain ⟨m1, ⟨n1, n2, n3, n4, n5⟩, m3, m4, m5, m6, m7, m8, m9, m10, m11, m12⟩ := id m
        refine ⟨eU u 33 0 0, Cal.of (by decide +kernel) (Nat.le_of_ble_eq_true rfl) ?_, Fr.rf, fun _ _ _ => rfl⟩
        apply tX8_turn_0 u what hw m1 <;> (intros; first | with_reducible exact ⟨rfl, rfl⟩ | contradiction | (exfalso; omega))

