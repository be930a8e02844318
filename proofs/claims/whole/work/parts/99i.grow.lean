theorem bit_ins {w : eW} (hH : HH w) {x y : Int} (hx : 0 ≤ x ∧ x ≤ 14) (hy : 0 ≤ y ∧ y < 10) : bitv (w 3 y) x = 1 ↔ insC w x y := by
  obtain ⟨⟨b1, b2, b3, b4, b5, b6⟩, b7, b8, b9⟩ := id hH.1
  constructor
  · intro q
    by_cases c : x < 14
    · have := hH.2.2 y x hy.1 hy.2 hx.1 c q
      exact ⟨hx.1, this.1, hy.1, this.2, q⟩
    · rw [bitv_big (k := 14) (b7 y hy.1 hy.2) (by omega)] at q
      exact absurd q (by decide)
  · intro q; exact q.2.2.2.2
theorem row_ins {w : eW} {x y : Int} (hx : 0 ≤ x ∧ x < w 2 0) : bitv (rowAt w y) x = 1 ↔ insC w x y := by
  unfold rowAt
  by_cases c : 0 ≤ y ∧ y < w 2 1
  · rw [if_pos c]
    exact ⟨fun q => ⟨hx.1, hx.2, c.1, c.2, q⟩, fun q => q.2.2.2.2⟩
  · rw [if_neg c]
    constructor
    · intro q; unfold bitv at q; rw [Int.zero_ediv] at q; exact absurd q (by decide)
    · intro q; exact absurd ⟨q.2.2.1, q.2.2.2.1⟩ c
theorem s_grow : ST 0 mX7_grow mX8_grow [] := by
  intro w hI
  obtain ⟨hB, hM, hS, hO, -, hT, hP, hC⟩ := id hI
  obtain ⟨⟨b1, b2, b3, b4, b5, b6⟩, b7, b8, b9⟩ := id hB
  obtain ⟨ws, p1, p2, p3, p4⟩ := y_X0_spread (wX7_beginAct w) (HB_begin hB)
  have zc := zX7_grow w ws hB hP.1 p1
  have eb2 : wX7_beginAct w 2 = w 2 := Fr_begin w 2 (by decide)
  have eb3 : wX7_beginAct w 3 = w 3 := Fr_begin w 3 (by decide)
  have ebr : rowAt (wX7_beginAct w) = rowAt w := rowAt_fr (Fr_begin w) (by decide)
  rw [eb2, eb3, ebr] at p4
  rcases hO with ⟨o1, o2, o3, o4, o5⟩ | ⟨o1, o2, o3, hH, hmk, hne⟩
  · refine step_q (r := (0, -1)) (v := 1) hI (by decide) ⟨w, Cal.as zc ?_ ?_, Fr.rf, hC⟩ (fun u m => ?_)
    · unfold rX7_grow; rw [if_neg (by omega)]
    · unfold wX7_grow; rw [if_neg (by omega)]
    · obtain ⟨m1, ⟨n1, n2, n3, n4, n5⟩, m3, m4, m5, m6, m7, m8, m9, m10, m11, m12⟩ := id m
      refine ⟨eU u 33 0 0, Cal.of (by decide +kernel) (Nat.le_of_ble_eq_true rfl) ?_, Fr.rf, fun _ _ _ => rfl⟩
      apply tX8_grow_0 u m1 <;> (intros; first | with_reducible exact ⟨rfl, rfl⟩ | contradiction | (exfalso; omega))
  · have fw : Fr [3, 6, 7, 13, 16, 24] w ws := ((Fr_begin w).mono (by decide)).tr (p3.mono (by decide))
    have m : MZ w (eU ws 0 2 0) := MZ.of hB hM hS hI.2.2.2.2.1.2 ((fw.mono (S' := [0, 3, 6, 7, 13, 16, 24]) (by decide)).put (i := 2) (v := 0) (by decide)) (by decide)
    obtain ⟨m1, ⟨n1, n2, n3, n4, n5⟩, m3, m4, m5, m6, m7, m8, m9, m10, m11, m12⟩ := id m
    obtain ⟨w2, z1, z2, z3, z4⟩ := y_X8_grow (eU ws 0 2 0) m1 (by omega)
    have hbit : ∀ x y, 0 ≤ x → x < 14 → 0 ≤ y → y < 10 → bitv (ws 3 y) x = if x < w 2 0 ∧ y < w 2 1 ∧ (insC w x y ∨ insC w x (y - 1) ∨ insC w (x + 1) y ∨ insC w x (y + 1) ∨ insC w (x - 1) y) then 1 else 0 := by
      intro x y x1 x2 y1 y2
      have h := p4 y y1 y2
      by_cases c : y < w 2 1
      · rw [if_pos c] at h
        rw [h.2 x x1 x2]
        by_cases d : x < w 2 0
        · have i0 := bit_ins hH (x := x) (y := y) (by omega) ⟨y1, y2⟩
          have i1 := bit_ins hH (x := x + 1) (y := y) (by omega) ⟨y1, y2⟩
          have i2 : (1 ≤ x ∧ bitv (w 3 y) (x - 1) = 1) ↔ insC w (x - 1) y := by
            by_cases e : 1 ≤ x
            · rw [← bit_ins hH (x := x - 1) (y := y) (by omega) ⟨y1, y2⟩]
              exact ⟨fun q => q.2, fun q => ⟨e, q⟩⟩
            · exact ⟨fun q => absurd q.1 e, fun q => absurd q.1 (by omega)⟩
          have i3 := row_ins (w := w) (x := x) (y := y - 1) ⟨x1, d⟩
          have i4 := row_ins (w := w) (x := x) (y := y + 1) ⟨x1, d⟩
          have ej : (bitv (w 3 y) x = 1 ∨ (1 ≤ x ∧ bitv (w 3 y) (x - 1) = 1) ∨ bitv (w 3 y) (x + 1) = 1 ∨ bitv (rowAt w (y - 1)) x = 1 ∨ bitv (rowAt w (y + 1)) x = 1) ↔ (insC w x y ∨ insC w x (y - 1) ∨ insC w (x + 1) y ∨ insC w x (y + 1) ∨ insC w (x - 1) y) := by
            rw [i0, i1, i2, i3, i4]
            constructor
            · rintro (q | q | q | q | q)
              · exact Or.inl q
              · exact Or.inr (Or.inr (Or.inr (Or.inr q)))
              · exact Or.inr (Or.inr (Or.inl q))
              · exact Or.inr (Or.inl q)
              · exact Or.inr (Or.inr (Or.inr (Or.inl q)))
            · rintro (q | q | q | q | q)
              · exact Or.inl q
              · exact Or.inr (Or.inr (Or.inr (Or.inl q)))
              · exact Or.inr (Or.inr (Or.inl q))
              · exact Or.inr (Or.inr (Or.inr (Or.inr q)))
              · exact Or.inr (Or.inl q)
          by_cases e : (insC w x y ∨ insC w x (y - 1) ∨ insC w (x + 1) y ∨ insC w x (y + 1) ∨ insC w (x - 1) y)
          · rw [if_pos ⟨d, ej.mpr e⟩, if_pos ⟨d, c, e⟩]
          · rw [if_neg (fun q => e (ej.mp q.2)), if_neg (fun q => e q.2.2)]
        · rw [if_neg (fun q => d q.1), if_neg (fun q => d q.1)]
      · rw [if_neg c] at h
        rw [h, if_neg (fun q => c q.2.1)]
        exact bit_out hH ⟨x1, x2⟩ ⟨y1, y2⟩ (fun z => c z.2)
    have hHs : HH ws := HH_rows (HH_begin hH) p3 (fun y y1 y2 => ⟨p2.2.1 y y1 y2, fun x x1 x2 q => by
      rw [hbit x y x1 x2 y1 y2] at q
      rw [eb2]
      by_cases c : x < w 2 0 ∧ y < w 2 1 ∧ (insC w x y ∨ insC w x (y - 1) ∨ insC w (x + 1) y ∨ insC w x (y + 1) ∨ insC w (x - 1) y)
      · exact ⟨c.1, c.2.1⟩
      · rw [if_neg c] at q; exact absurd q (by decide)⟩)
    have hIV : IV w2 := by
      refine IV_act2 hI o1 hH hne (p3.mono (by decide)) z2 hHs ?_ (fun x y x1 x2 y1 y2 => ?_) (fun s s1 s2 => ?_)
      · obtain ⟨x, y, q⟩ := hne
        obtain ⟨q1, q2, q3, q4, q5⟩ := id q
        refine ⟨x, y, q1, by rw [fw 2 (by decide)]; exact q2, q3, by rw [fw 2 (by decide)]; exact q4, ?_⟩
        have h := hbit x y q1 (by omega) q3 (by omega)
        rw [if_pos ⟨q2, q4, Or.inl q⟩] at h
        exact h
      · have h := z3 (14 * y + x) (by omega) (by omega)
        have hg : gwC (eU ws 0 2 0) (14 * y + x) ↔ (x < w 2 0 ∧ y < w 2 1 ∧ (insC w x (y - 1) ∨ insC w (x + 1) y ∨ insC w x (y + 1) ∨ insC w (x - 1) y)) := by
          unfold gwC
          rw [show (14 * y + x) % 14 = x by omega, show (14 * y + x) / 14 = y by omega, n1, n2, m.ins, m.ins, m.ins, m.ins]
          exact ⟨fun q => q.2, fun q => ⟨by omega, q⟩⟩
        rw [hbit x y x1 x2 y1 y2]
        by_cases c : gwC (eU ws 0 2 0) (14 * y + x)
        · rw [h.1 c]
          have c' := hg.mp c
          rw [if_pos ⟨c'.1, c'.2.1, Or.inr c'.2.2⟩]
        · rw [h.2 c, m10 x y x1 x2 y1 y2]
          by_cases d : insC w x y
          · rw [if_pos ⟨d.2.1, d.2.2.2.1, Or.inl d⟩]
            exact (bit_ins hH (by omega) ⟨y1, y2⟩).mpr d
          · rw [if_neg (fun q => q.2.2.elim d (fun z => c (hg.mpr ⟨q.1, q.2.1, z⟩)))]
            rcases bitv_01 (w 3 y) x with q | q
            · exact q
            · exact absurd ((bit_ins hH (by omega) ⟨y1, y2⟩).mp q) d
      · rw [z4 (140 + s) (by omega), m11 s s1 s2, fw 4 (by decide)]
    have hH2 : HH w2 := by
      rcases hIV.2.2.2.1 with ⟨q, -⟩ | ⟨-, -, -, q, -⟩
      · exfalso
        rw [z2 33 (by decide), eU_get, if_neg (by decide), eU_get, if_neg (by decide), wRem_33 _ (by decide), eU_get, if_neg (by decide)] at q
        omega
      · exact q
    have hr1 := cnt_same hIV.2.2.1 hH2
    have hr2 := m9 hH
    have e1 : cnt2 w2 = cnt2 ws := by
      unfold cnt2
      rw [z2 3 (by decide), z2 2 (by decide), eU_ne (by decide), eU_ne (by decide), Fr_rem _ 3 (by decide), eU_ne (by decide), eU_ne (by decide), eU_ne (by decide), eU_ne (by decide), Fr_rem _ 2 (by decide), eU_ne (by decide), eU_ne (by decide)]
    have e2 : cnt2 (wX7_beginAct w) = cnt2 w := by unfold cnt2; rw [eb2, eb3]
    refine ⟨cnt2 ws - cnt2 w, eU ws 0 2 0, w2, Cal.as zc ?_ ?_, ?_, hIV⟩
    · unfold rX7_grow; rw [if_pos (by omega), e2]
    · unfold wX7_grow; rw [if_pos (by omega)]
    · rw [hr1, hr2, e1] at z1; exact z1
theorem s_undo : ST 0 mX7_undo mX8_undo [] := by
  intro w hI
  obtain ⟨hB, hM, hS, hO, -, hT, hP, hC⟩ := id hI
  obtain ⟨⟨b1, b2, b3, b4, b5, b6⟩, b7, b8, b9⟩ := id hB
  have zc := zX7_undo w hB hP.1
  have hPb := hP.1
  rcases hO with ⟨o1, o2, o3, o4, o5⟩ | ⟨o1, o2, o3, hH, hmk, hne⟩
  · refine step_q (r := (0, -1)) (v := 1) hI (by decide) ⟨w, Cal.as zc ?_ ?_, Fr.rf, hC⟩ (fun u m => ?_)
    · unfold rX7_undo; rw [if_neg (by omega)]
    · unfold wX7_undo; rw [if_neg (by omega)]
    · obtain ⟨m1, ⟨n1, n2, n3, n4, n5⟩, m3, m4, m5, m6, m7, m8, m9, m10, m11, m12⟩ := id m
      exact ⟨eU u 33 0 0, y_X8_undo1 u m1 (by omega), Fr.rf, fun _ _ _ => rfl⟩
  · by_cases c : 0 < w 6 1
    · have ew : wX7_undo w = eU (eU (eU (eU (eU (eU (eU (eCpy (eCpy w 7 3 ((w 6 1 - 1) * 14) 0 10) 7 4 ((w 6 1 - 1) * 14 + 10) 0 4) 6 1 (w 6 1 - 1)) 13 4 0) 16 9 0) 16 10 0) 16 11 0) 24 9 0) 0 2 0 := by
        unfold wX7_undo
        rw [if_pos (by omega), if_pos c, if_neg (by omega), if_neg (by omega)]
        simp [eCpy]
      have er : rX7_undo w = w 6 1 - 1 := by
        unfold rX7_undo
        rw [if_pos (by omega), if_pos c, if_neg (by omega), if_neg (by omega)]
        simp [eCpy]
      have f : Fr [0, 3, 4, 6, 7, 13, 16, 24] w (wX7_undo w) := by
        rw [ew]
        intro k hk
        simp only [List.mem_cons, List.not_mem_nil, or_false, not_or] at hk
        obtain ⟨h1, h2, h3, h4, h5, h6, h7, h8⟩ := hk
        simp [eU, eCpy, h1, h2, h3, h4, h6, h7, h8]
      have e3 : ∀ y, 0 ≤ y → y < 10 → wX7_undo w 3 y = w 7 ((w 6 1 - 1) * 14 + y) := fun y y1 y2 => by
        rw [ew]; simp [eU, eCpy, y1, y2]
      have e4 : ∀ s, 0 ≤ s → s < 4 → wX7_undo w 4 s = w 7 ((w 6 1 - 1) * 14 + 10 + s) := fun s s1 s2 => by
        rw [ew]; simp [eU, eCpy, s1, s2]
      have e6 : wX7_undo w 6 1 = w 6 1 - 1 := by rw [ew]; simp [eU]
      have e7 : wX7_undo w 7 = w 7 := by rw [ew]; funext j; simp [eU, eCpy]
      have e0 : ∀ i, i ≠ 2 → wX7_undo w 0 i = w 0 i := fun i hi => by rw [ew]; simp [eU, eCpy, hi]
      have e02 : wX7_undo w 0 2 = 0 := by rw [ew]; simp [eU]
      have ec : wX7_undo w 13 4 = 0 ∧ wX7_undo w 16 9 = 0 ∧ wX7_undo w 16 10 = 0 ∧ wX7_undo w 16 11 = 0 ∧ wX7_undo w 24 9 = 0 := by rw [ew]; simp [eU]
      obtain ⟨k1, ⟨x, y, kx1, kx2, ky1, ky2, kb⟩, k3⟩ := hP.2 (w 6 1 - 1) (by omega) (by omega)
      generalize eC : wX7_undo w = w1 at *
      have m : MZ w w1 := MZ.of hB hM hS hI.2.2.2.2.1.2 f (by decide)
      obtain ⟨m1, ⟨n1, n2, n3, n4, n5⟩, m3, m4, m5, m6, m7, m8, m9, m10, m11, m12⟩ := id m
      have h2 : w1 2 = w 2 := f 2 (by decide)
      have h5 : w1 5 = w 5 := f 5 (by decide)
      have h33 : w1 33 = w 33 := f 33 (by decide)
      have h39 : w1 39 = w 39 := f 39 (by decide)
      have hHc : HH w1 := by
        refine ⟨⟨?_, fun i i1 i2 => ?_, fun i i1 i2 => ?_, ?_⟩, fun i i1 i2 => ?_, fun y' x' y1 y2 x1 x2 q => ?_⟩
        · rw [h2]; exact ⟨b1, b2, b3, b4, b5, b6⟩
        · rw [e3 i i1 i2]; exact (k1 i i1 i2).1
        · rw [e4 i i1 i2]; have := (k3 i i1 i2).1; omega
        · rw [h5]; exact b9
        · rw [e4 i i1 i2]; exact (k3 i i1 i2).1.1
        · rw [h2]; rw [e3 y' y1 y2] at q; exact ((k1 y' y1 y2).2 x' x1 x2).2 q
      have u27 : w1 33 27 = w 6 1 := n4
      have hu := y_X8_undo w1 m1 (by omega) (by omega)
      have g38 : ∀ j, 0 ≤ j → j < 144 → wUndoM w1 38 j = w 39 ((w 6 1 - 1) * 144 + j) := fun j j1 j2 => by
        unfold wUndoM
        rw [eU_ne (by decide), eU_ne (by decide), eSet_at, if_pos (by omega), h39, u27, show j - 0 = j by omega]
      have g33 : ∀ i, i ≠ 0 → i ≠ 1 → i ≠ 2 → i ≠ 27 → wUndoM w1 33 i = w1 33 i := fun i h0 h1 h2 h3 => by
        unfold wUndoM
        rw [eU_get, if_neg h2, eU_get, if_neg h1, eSet_ne (by decide), eU_get, if_neg h3, eU_get, if_neg h0]
      have gf : Fr [33, 35, 38, 39] w1 (wUndoM w1) := by
        intro k hk
        have n33 : k ≠ 33 := fun q => hk (by rw [q]; decide)
        have n38 : k ≠ 38 := fun q => hk (by rw [q]; decide)
        unfold wUndoM
        rw [eU_ne n33, eU_ne n33, eSet_ne n38, eU_ne n33, eU_ne n33]
      have g27 : wUndoM w1 33 27 = w 6 1 - 1 := by
        unfold wUndoM
        rw [eU_get, if_neg (by decide), eU_get, if_neg (by decide), eSet_ne (by decide), eU_get, if_pos rfl, u27]
      have g39 : wUndoM w1 39 = w 39 := by
        unfold wUndoM
        rw [eU_ne (by decide), eU_ne (by decide), eSet_ne (by decide), eU_ne (by decide), eU_ne (by decide), h39]
      have g1 : wUndoM w1 33 1 = 0 := by unfold wUndoM; rw [eU_get, if_neg (by decide), eU_get, if_pos rfl]
      have g2 : wUndoM w1 33 2 = -1 := by unfold wUndoM; rw [eU_get, if_pos rfl]
      refine ⟨w 6 1 - 1, w1, wUndoM w1, Cal.as zc (by rw [er]) rfl, ?_, IV_act hI o1 f e0 e02 ec gf (fun i i1 i2 i3 => g33 i (by omega) (by omega) (by omega) i3) g1 g2 hHc ?_ (fun x' y' x1 x2 y1 y2 => ?_) (fun s s1 s2 => ?_) ?_ ?_ (fun k q1 q2 => ?_)⟩
      · rw [u27] at hu; exact hu
      · have kf := ((k1 y ky1 ky2).2 x kx1 kx2).2 kb
        exact ⟨x, y, kx1, by rw [h2]; exact kf.1, ky1, by rw [h2]; exact kf.2, by rw [e3 y ky1 ky2]; exact kb⟩
      · rw [g38 _ (by omega) (by omega), e3 y' y1 y2]; exact ((k1 y' y1 y2).2 x' x1 x2).1
      · rw [g38 _ (by omega) (by omega), e4 s s1 s2]; exact (k3 s s1 s2).2
      · rw [g27, e6]
      · rw [e6]; have := hP.1; omega
      · rw [e7, g39]; exact hP.2 k q1 (by omega)
    · refine step_q (r := (0, -1)) (v := 5) hI (by decide) ⟨w, Cal.as zc ?_ ?_, Fr.rf, hC⟩ (fun u m => ?_)
      · unfold rX7_undo; rw [if_pos (by omega), if_neg c]
      · unfold wX7_undo; rw [if_pos (by omega), if_neg c]
      · obtain ⟨m1, ⟨n1, n2, n3, n4, n5⟩, m3, m4, m5, m6, m7, m8, m9, m10, m11, m12⟩ := id m
        have := hP.1
        exact ⟨eU u 33 0 0, y_X8_undo5 u m1 (by omega) (by omega), Fr.rf, fun _ _ _ => rfl⟩

