theorem s_fault : ST 0 mX7_fault mX8_fault [] := by
  intro w hI
  obtain ⟨hB, hM, hS, hO, hP, hT, -, hC⟩ := id hI
  refine ⟨_, _, _, zX7_fault w , Cal.as (zX8_fault w) ?_ rfl, IV_0 hI⟩
  unfold rX8_fault rX7_fault
  rw [hT.2.2.1]

theorem s_bytes : ST 0 mX7_bytes mX8_bytes [] := by
  intro w hI
  obtain ⟨hB, hM, hS, hO, hP, hT, -, hC⟩ := id hI
  refine ⟨_, _, _, zX7_bytes w , Cal.as (zX8_bytes w) ?_ rfl, IV_0 hI⟩
  unfold rX8_bytes rX7_bytes
  rw [hP.1.1]

theorem s_trouble : ST 0 mX7_trouble mX8_trouble [] := by
  intro w hI
  obtain ⟨hB, hM, hS, hO, hP, hT, -, hC⟩ := id hI
  refine ⟨_, _, _, zX7_trouble w , Cal.as (zX8_trouble w) ?_ rfl, IV_0 hI⟩
  unfold rX8_trouble rX7_trouble
  rw [hT.1]

theorem s_where : ST 0 mX7_where mX8_where [] := by
  intro w hI
  obtain ⟨hB, hM, hS, hO, hP, hT, -, hC⟩ := id hI
  refine ⟨_, _, _, zX7_where w (by have := hT.2.1; omega), Cal.as (zX8_where w) ?_ rfl, IV_0 hI⟩
  unfold rX8_where rX7_where
  rw [hT.2.2.2]

theorem z_isPoint1 {w u : eW} (m : MZ w u) {px py : Int} (hx : eI px) (hy : eI py) (h : 0 ≤ px ∧ px ≤ 4 * w 2 0 ∧ 0 ≤ py ∧ py ≤ 4 * w 2 1) : Cal mX8_isPoint [eR 33, (0, px), (0, py)] (eU u 33 0 0) (some (0, 1)) (eU u 33 0 0) := by
  have q := y_b_X8_isPoint (eU u 33 0 0) px py hx hy m.z.1
  rw [m.z.2.1.1, m.z.2.1.2.1, if_pos h] at q
  exact q
theorem z_isPoint0 {w u : eW} (m : MZ w u) {px py : Int} (hx : eI px) (hy : eI py) (h : ¬ (0 ≤ px ∧ px ≤ 4 * w 2 0 ∧ 0 ≤ py ∧ py ≤ 4 * w 2 1)) : Cal mX8_isPoint [eR 33, (0, px), (0, py)] (eU u 33 0 0) (some (0, 0)) (eU u 33 0 0) := by
  have q := y_b_X8_isPoint (eU u 33 0 0) px py hx hy m.z.1
  rw [m.z.2.1.1, m.z.2.1.2.1, if_neg h] at q
  exact q
theorem z_isFrame1 {w u : eW} (m : MZ w u) {x y : Int} (hx : eI x) (hy : eI y) (h1 : w 33 28 = 1) (h : 0 ≤ x ∧ x < w 2 0 ∧ 0 ≤ y ∧ y < w 2 1) : Cal mX8_isFrame [eR 33, (0, x), (0, y)] (eU u 33 0 0) (some (0, 1)) (eU u 33 0 0) := by
  have q := y_b_X8_isFrame (eU u 33 0 0) x y hx hy m.z.1
  rw [m.z.2.1.1, m.z.2.1.2.1, m.z.2.1.2.2.2.2, if_pos (by omega)] at q
  exact q
theorem z_isFrame0 {w u : eW} (m : MZ w u) {x y : Int} (hx : eI x) (hy : eI y) (h : ¬ (0 ≤ x ∧ x < w 2 0 ∧ 0 ≤ y ∧ y < w 2 1)) : Cal mX8_isFrame [eR 33, (0, x), (0, y)] (eU u 33 0 0) (some (0, 0)) (eU u 33 0 0) := by
  have q := y_b_X8_isFrame (eU u 33 0 0) x y hx hy m.z.1
  rw [m.z.2.1.1, m.z.2.1.2.1, m.z.2.1.2.2.2.2, if_neg (by omega)] at q
  exact q
theorem MZ.ins {w u : eW} (m : MZ w u) (x y : Int) : insM u x y ↔ insC w x y := by
  rw [← gM_1, ← gC_1, m.2.2.1]
theorem z_isInside1 {w u : eW} (m : MZ w u) {x y : Int} (hx : eI x) (hy : eI y) (h : insC w x y) : Cal mX8_isInside [eR 33, (0, x), (0, y)] (eU u 33 0 0) (some (0, 1)) (eU u 33 0 0) := by
  have q := y_b_X8_isInside (eU u 33 0 0) x y hx hy m.z.1
  rw [if_pos ((m.z.ins x y).mpr h)] at q
  exact q
theorem z_isInside0 {w u : eW} (m : MZ w u) {x y : Int} (hx : eI x) (hy : eI y) (h : ¬ insC w x y) : Cal mX8_isInside [eR 33, (0, x), (0, y)] (eU u 33 0 0) (some (0, 0)) (eU u 33 0 0) := by
  have q := y_b_X8_isInside (eU u 33 0 0) x y hx hy m.z.1
  rw [if_neg (mt (m.z.ins x y).mp h)] at q
  exact q
theorem y_build (w : eW) (hB : HB w) (hC : CA w) : ∃ w1, Cal mX6_build [eR 13] w none w1 ∧ Fr [13, 14, 15] w w1 ∧ RC w1 (wallsOf w) ∧ CA w1 := by
  obtain ⟨w1, a1, a2, a3⟩ := y_X6_build w hB (hC.1.elim Or.inl (fun q => Or.inr q.1)) (fun e => hC.1.elim (fun q => absurd (q.symm.trans e) (by decide)) id)
  exact ⟨w1, a1, a2, a3, CA_build a2 a3 hC⟩
theorem walls_b (w : eW) (hB : HB w) : 0 ≤ wallsOf w 0 0 ∧ wallsOf w 0 0 ≤ 280 := by
  obtain ⟨⟨b1, b2, b3, b4, b5, b6⟩, b7, b8, b9⟩ := id hB
  exact wAl_280 _ (by omega) (by omega)
theorem walls_none (w : eW) (h1 : w 2 0 = 0) (h2 : w 2 1 = 0) : wallsOf w 0 0 = 0 := by
  unfold wallsOf
  rw [h1, h2]
  rfl

theorem s_cell (x y : Int) (hx : eI x) (hy : eI y) : ST 0 mX7_cell mX8_cell [(0, x), (0, y)] := by
  intro w hI
  obtain ⟨hB, hM, hS, hO, -, hT, -, hC⟩ := id hI
  obtain ⟨⟨b1, b2, b3, b4, b5, b6⟩, b7, b8, b9⟩ := id hB
  by_cases h : 0 ≤ x ∧ x < w 2 0 ∧ 0 ≤ y ∧ y < w 2 1
  · have h1 : w 33 28 = 1 := by rcases hO with ⟨o1, o2, o3, o4, o5⟩ | ⟨o1, -⟩ <;> omega
    refine step_q (r := (0, bitv (w 3 y) x)) (v := 0) hI (by decide) ⟨w, Cal.as (zX7_cell w x y hx hy hB) ?_ ?_, Fr.rf, hC⟩ (fun u m => ?_)
    · unfold rX7_cell
      rw [if_pos h]
      by_cases hi : insC w x y
      · rw [if_pos hi]; rw [show bitv (w 3 y) x = 1 from hi.2.2.2.2]
      · rw [if_neg hi]
        rcases bitv_01 (w 3 y) x with q | q
        · rw [q]
        · exact absurd ⟨h.1, h.2.1, h.2.2.1, h.2.2.2, q⟩ hi
    · unfold wX7_cell; rw [if_pos h]
    · obtain ⟨m1, ⟨n1, n2, n3, n4, n5⟩, m3, m4, m5, m6, m7, m8, m9, m10, m11, m12⟩ := id m
      refine ⟨eU u 33 0 0, Cal.as (zX8_cell u x y hx hy m1) ?_ ?_, Fr.rf, fun _ _ _ => rfl⟩
      · unfold rX8_cell; rw [if_pos (by omega), m10 x y h.1 (by omega) h.2.2.1 (by omega)]
      · unfold wX8_cell; rw [if_pos (by omega)]
  · refine step_q (r := (0, -1)) (v := 1) hI (by decide) ⟨w, Cal.as (zX7_cell w x y hx hy hB) ?_ ?_, Fr.rf, hC⟩ (fun u m => ?_)
    · unfold rX7_cell; rw [if_neg h]
    · unfold wX7_cell; rw [if_neg h]
    · obtain ⟨m1, ⟨n1, n2, n3, n4, n5⟩, m3, m4, m5, m6, m7, m8, m9, m10, m11, m12⟩ := id m
      refine ⟨eU u 33 0 0, Cal.as (zX8_cell u x y hx hy m1) ?_ ?_, Fr.rf, fun _ _ _ => rfl⟩
      · unfold rX8_cell; rw [if_neg (by omega)]
      · unfold wX8_cell; rw [if_neg (by omega)]
theorem s_speed (side : Int) (hs : eI side) : ST 0 mX7_speed mX8_speed [(0, side)] := by
  intro w hI
  obtain ⟨hB, hM, hS, hO, -, hT, -, hC⟩ := id hI
  obtain ⟨⟨b1, b2, b3, b4, b5, b6⟩, b7, b8, b9⟩ := id hB
  rcases hO with ⟨o1, o2, o3, o4, o5⟩ | ⟨o1, o2, o3, hH, hmk, hne⟩
  · refine step_q (r := (0, -1)) (v := 1) hI (by decide) ⟨w, Cal.as (zX7_speed w side hs hB) ?_ ?_, Fr.rf, hC⟩ (fun u m => ?_)
    · unfold rX7_speed; rw [if_neg (by omega)]
    · unfold wX7_speed; rw [if_neg (by omega)]
    · obtain ⟨m1, ⟨n1, n2, n3, n4, n5⟩, m3, m4, m5, m6, m7, m8, m9, m10, m11, m12⟩ := id m
      refine ⟨eU u 33 0 0, Cal.as (zX8_speed u side hs m1) ?_ ?_, Fr.rf, fun _ _ _ => rfl⟩
      · unfold rX8_speed; rw [if_pos (by omega)]
      · unfold wX8_speed; rw [if_pos (by omega)]
  · by_cases h : 0 ≤ side ∧ side < 4
    · refine step_q (r := (0, w 4 side)) (v := 0) hI (by decide) ⟨w, Cal.as (zX7_speed w side hs hB) ?_ ?_, Fr.rf, hC⟩ (fun u m => ?_)
      · unfold rX7_speed; rw [if_pos (by omega), if_pos h, if_neg (by omega), if_pos h.2]
      · unfold wX7_speed; rw [if_pos (by omega), if_pos h]
      · obtain ⟨m1, ⟨n1, n2, n3, n4, n5⟩, m3, m4, m5, m6, m7, m8, m9, m10, m11, m12⟩ := id m
        refine ⟨eU u 33 0 0, Cal.as (zX8_speed u side hs m1) ?_ ?_, Fr.rf, fun _ _ _ => rfl⟩
        · unfold rX8_speed; rw [if_neg (by omega), if_pos (by omega), m11 side h.1 h.2]
        · unfold wX8_speed; rw [if_neg (by omega), if_pos (by omega)]
    · refine step_q (r := (0, -1)) (v := 1) hI (by decide) ⟨w, Cal.as (zX7_speed w side hs hB) ?_ ?_, Fr.rf, hC⟩ (fun u m => ?_)
      · unfold rX7_speed; rw [if_pos (by omega), if_neg h]
      · unfold wX7_speed; rw [if_pos (by omega), if_neg h]
      · obtain ⟨m1, ⟨n1, n2, n3, n4, n5⟩, m3, m4, m5, m6, m7, m8, m9, m10, m11, m12⟩ := id m
        refine ⟨eU u 33 0 0, Cal.as (zX8_speed u side hs m1) ?_ ?_, Fr.rf, fun _ _ _ => rfl⟩
        · unfold rX8_speed; rw [if_neg (by omega), if_neg (by omega)]
        · unfold wX8_speed; rw [if_neg (by omega), if_neg (by omega)]
theorem s_mark (i what : Int) (hi : eI i) (hw : eI what) : ST 0 mX7_mark mX8_mark [(0, i), (0, what)] := by
  intro w hI
  obtain ⟨hB, hM, hS, hO, -, hT, -, hC⟩ := id hI
  obtain ⟨⟨b1, b2, b3, b4, b5, b6⟩, b7, b8, b9⟩ := id hB
  by_cases h : (0 ≤ i ∧ i < w 2 2) ∧ (what = 0 ∨ what = 1)
  · have h1 : w 33 28 = 1 := by rcases hO with ⟨o1, o2, o3, o4, o5⟩ | ⟨o1, -⟩ <;> omega
    refine step_q (r := (0, w 5 (2 * i + what))) (v := 0) hI (by decide) ⟨w, Cal.as (zX7_mark w i what hi hw hB) ?_ ?_, Fr.rf, hC⟩ (fun u m => ?_)
    · unfold rX7_mark; rw [if_pos h.1, if_pos h.2, if_neg (by omega), if_pos (by omega)]
    · unfold wX7_mark; rw [if_pos h.1, if_pos h.2]
    · obtain ⟨m1, ⟨n1, n2, n3, n4, n5⟩, m3, m4, m5, m6, m7, m8, m9, m10, m11, m12⟩ := id m
      refine ⟨eU u 33 0 0, Cal.as (zX8_mark u i what hi hw m1) ?_ ?_, Fr.rf, fun _ _ _ => rfl⟩
      · unfold rX8_mark; rw [if_neg (by omega), if_pos (by omega), if_pos (by omega), m7 _ (by omega) (by omega)]
      · unfold wX8_mark; rw [if_neg (by omega), if_pos (by omega), if_pos (by omega)]
  · refine step_q (r := (0, -1)) (v := 1) hI (by decide) ⟨w, Cal.as (zX7_mark w i what hi hw hB) ?_ ?_, Fr.rf, hC⟩ (fun u m => ?_)
    · unfold rX7_mark
      by_cases h2 : 0 ≤ i ∧ i < w 2 2
      · rw [if_pos h2, if_neg (fun q => h ⟨h2, q⟩)]
      · rw [if_neg h2]
    · unfold wX7_mark
      by_cases h2 : 0 ≤ i ∧ i < w 2 2
      · rw [if_pos h2, if_neg (fun q => h ⟨h2, q⟩)]
      · rw [if_neg h2]
    · obtain ⟨m1, ⟨n1, n2, n3, n4, n5⟩, m3, m4, m5, m6, m7, m8, m9, m10, m11, m12⟩ := id m
      refine ⟨eU u 33 0 0, Cal.as (zX8_mark u i what hi hw m1) ?_ ?_, Fr.rf, fun _ _ _ => rfl⟩
      · unfold rX8_mark
        (repeat' split) <;> first | rfl | (exfalso; omega)
      · unfold wX8_mark
        (repeat' split) <;> first | rfl | (exfalso; omega)
