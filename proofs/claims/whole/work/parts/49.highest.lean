/-- the first of the highest points -/
def isHi (W H : Int) (ht : Int → Int → Int) (x y : Int) : Prop := 0 ≤ x ∧ x ≤ 4 * W ∧ 0 ≤ y ∧ y ≤ 4 * H ∧ ∀ i j, 0 ≤ i → i ≤ 4 * W → 0 ≤ j → j ≤ 4 * H → ht i j ≤ ht x y ∧ ((j < y ∨ (j = y ∧ i < x)) → ht i j < ht x y)
theorem isHi_one {W H : Int} {ht : Int → Int → Int} {x y x' y' : Int} (h1 : isHi W H ht x y) (h2 : isHi W H ht x' y') : x = x' ∧ y = y' := by
  obtain ⟨a1, a2, a3, a4, a5⟩ := h1
  obtain ⟨c1, c2, c3, c4, c5⟩ := h2
  have e1 := a5 x' y' c1 c2 c3 c4
  have e2 := c5 x y a1 a2 a3 a4
  by_cases h : y' < y ∨ (y' = y ∧ x' < x)
  · have := e1.2 h; omega
  · by_cases h' : y < y' ∨ (y = y' ∧ x < x')
    · have := e2.2 h'; omega
    · omega
/-- of the points ahead of one -/
def hiI (W : Int) (ht : Int → Int → Int) (py px best X Y : Int) : Prop := (-1 ≤ best ∧ best ≤ 200000) ∧ (∀ i j, 0 ≤ i → i ≤ 4 * W → 0 ≤ j → (j < py ∨ (j = py ∧ i < px)) → ht i j ≤ best) ∧ (best = -1 ∨ (0 ≤ X ∧ X ≤ 4 * W ∧ 0 ≤ Y ∧ (Y < py ∨ (Y = py ∧ X < px)) ∧ best = ht X Y ∧ ∀ i j, 0 ≤ i → i ≤ 4 * W → 0 ≤ j → (j < Y ∨ (j = Y ∧ i < X)) → ht i j < best))
theorem hiI_0 (W : Int) (ht : Int → Int → Int) (X Y : Int) : hiI W ht 0 0 (-1) X Y := ⟨by omega, fun i j h1 h2 h3 h4 => by omega, Or.inl rfl⟩
theorem hiI_row {W : Int} {ht : Int → Int → Int} {py best X Y : Int} (h : hiI W ht py (4 * W + 1) best X Y) : hiI W ht (py + 1) 0 best X Y := by
  obtain ⟨h1, h2, h3⟩ := h
  refine ⟨h1, fun i j a1 a2 a3 a4 => h2 i j a1 a2 a3 (by omega), ?_⟩
  rcases h3 with e | ⟨e1, e2, e3, e4, e5, e6⟩
  · exact Or.inl e
  · exact Or.inr ⟨e1, e2, e3, by omega, e5, e6⟩
theorem hiI_stay {W : Int} {ht : Int → Int → Int} {py px best X Y : Int} (h : hiI W ht py px best X Y) (hb : ht px py ≤ best) : hiI W ht py (px + 1) best X Y := by
  obtain ⟨h1, h2, h3⟩ := h
  refine ⟨h1, fun i j a1 a2 a3 a4 => ?_, ?_⟩
  · by_cases hc : i = px ∧ j = py
    · rw [hc.1, hc.2]; exact hb
    · exact h2 i j a1 a2 a3 (by omega)
  · rcases h3 with e | ⟨e1, e2, e3, e4, e5, e6⟩
    · exact Or.inl e
    · exact Or.inr ⟨e1, e2, e3, by omega, e5, e6⟩
theorem hiI_new {W : Int} {ht : Int → Int → Int} {py px best X Y : Int} (h : hiI W ht py px best X Y) (hx : 0 ≤ px ∧ px ≤ 4 * W) (hy : 0 ≤ py) (hb : best < ht px py) (ht2 : ht px py ≤ 200000) : hiI W ht py (px + 1) (ht px py) px py := by
  obtain ⟨h1, h2, h3⟩ := h
  refine ⟨by omega, fun i j a1 a2 a3 a4 => ?_, Or.inr ⟨hx.1, hx.2, hy, by omega, rfl, fun i j a1 a2 a3 a4 => ?_⟩⟩
  · by_cases hc : i = px ∧ j = py
    · rw [hc.1, hc.2]; exact Int.le_refl _
    · have := h2 i j a1 a2 a3 (by omega); omega
  · have := h2 i j a1 a2 a3 a4; omega
theorem hiI_end {W H : Int} {ht : Int → Int → Int} {best X Y : Int} (hW : 0 ≤ W ∧ 0 ≤ H) (h0 : 0 ≤ ht 0 0) (h : hiI W ht (4 * H + 1) 0 best X Y) : isHi W H ht X Y := by
  obtain ⟨h1, h2, h3⟩ := h
  have e0 := h2 0 0 (by omega) (by omega) (by omega) (by omega)
  rcases h3 with e | ⟨e1, e2, e3, e4, e5, e6⟩
  · omega
  · refine ⟨e1, e2, e3, by omega, fun i j a1 a2 a3 a4 => ⟨?_, fun a5 => ?_⟩⟩
    · have := h2 i j a1 a2 a3 (by omega); omega
    · have := e6 i j a1 a2 a3 a5; omega
theorem y_X5_highestPlace (w : eW) (what : Int) (hw : what = 0 ∨ what = 1) (hH : HH w) (hz : w 16 9 = 0 ∨ RY w) (hm : w 16 10 = 0 ∨ RMs w) : ∃ w1 x y, isHi (w 2 0) (w 2 1) (htC w) x y ∧ Cal mX5_highestPlace [eR 16, (0, what)] w (some (0, if what = 0 then x else y)) w1 ∧ Fr [16, 17, 18, 19, 21] w w1 ∧ (∀ i, i ≠ 9 → i ≠ 10 → w1 16 i = w 16 i) ∧ RMs w1 := by
  obtain ⟨⟨b1, b2, b3, b4, b5, b6⟩, b7, b8, b9⟩ := id hH.1
  obtain ⟨w1, c1, f1, o1, m1⟩ := y_X5_measureAll w hH hz hm
  have hH1 : HH w1 := HH_fr f1 hH (by decide)
  have e2 : w1 2 = w 2 := f1 2 (by decide)
  have hv : ∀ px py, 0 ≤ px → px ≤ 4 * w 2 0 → 0 ≤ py → py ≤ 4 * w 2 1 → w1 21 (py * 57 + px) = htC w px py ∧ (0 ≤ htC w px py ∧ htC w px py ≤ 200000) := fun px py h1 h2 h3 h4 => by
    have := m1.2.2.2 px py h1 (by rw [e2]; exact h2) h3 (by rw [e2]; exact h4)
    rw [htC_fr f1 (by decide)] at this
    exact ⟨this, (htC_is hH ⟨h1, h2, h3, h4⟩).2⟩
  have key := loop_up (P := fun py => ∀ best X Y, hiI (w 2 0) (htC w) py 0 best X Y → ∃ b X' Y', hiI (w 2 0) (htC w) (4 * w 2 1 + 1) 0 b X' Y' ∧ Go mX5_highestPlace 11 [(0, eR 16), (1, (0, what)), (2, (0, best)), (3, (0, if what = 0 then X else Y)), (4, (0, py))] [] w1 (some (0, if what = 0 then X' else Y')) w1) 0 (4 * w 2 1 + 1) ?_ ?_ 0 (by omega) (by omega) (-1) 0 0 (hiI_0 _ _ _ _)
  · obtain ⟨b, X, Y, k1, k2⟩ := key
    refine ⟨w1, X, Y, hiI_end ⟨b1, b3⟩ (hv 0 0 (by omega) (by omega) (by omega) (by omega)).2.1 k1, Cal.of (by decide +kernel) (Nat.le_of_ble_eq_true rfl) (tX5_highestPlace_0 w what c1 ?_), f1, o1, m1⟩
    rw [show (if what = 0 then (0 : Int) else 0) = 0 by split <;> rfl] at k2
    exact k2
  · intro best X Y hI
    refine ⟨best, X, Y, hI, ?_⟩
    apply tX5_highestPlace_11 w1 _ _ _ _ hH1.1 (by omega)
    · intro _; exact ⟨rfl, rfl⟩
    · intro z; rw [e2] at z; omega
  · intro py hy1 hy2 ih best X Y hI
    have row := loop_up (P := fun px => ∀ best X Y, hiI (w 2 0) (htC w) py px best X Y → ∃ b X' Y', hiI (w 2 0) (htC w) (py + 1) 0 b X' Y' ∧ ∀ (r : Option eV) (w9 : eW), Go mX5_highestPlace 11 [(0, eR 16), (1, (0, what)), (2, (0, b)), (3, (0, if what = 0 then X' else Y')), (4, (0, py + 1))] [] w1 r w9 → Go mX5_highestPlace 28 [(0, eR 16), (1, (0, what)), (2, (0, best)), (3, (0, if what = 0 then X else Y)), (4, (0, py)), (5, (0, px))] [] w1 r w9) 0 (4 * w 2 0 + 1) ?_ ?_ 0 (by omega) (by omega) best X Y hI
    · obtain ⟨b, X', Y', k1, k2⟩ := row
      obtain ⟨b2, X2, Y2, l1, l2⟩ := ih b X' Y' k1
      refine ⟨b2, X2, Y2, l1, ?_⟩
      apply tX5_highestPlace_11 w1 _ _ _ _ hH1.1 (by omega)
      · intro z; rw [e2] at z; omega
      · intro _; exact k2 _ _ l2
    · intro best X Y hI
      refine ⟨best, X, Y, hiI_row hI, fun r w9 h => ?_⟩
      have hb := hI.1
      apply tX5_highestPlace_28 w1 _ _ _ _ _ hH1.1 (by omega) (by omega) (by omega) (by omega) (fun z => absurd (show 4 * w1 2 0 < 4 * w 2 0 + 1 by rw [e2]; omega) z)
      · intro _; exact h
      all_goals (intro z; rw [e2] at z; omega)
    · intro px hx1 hx2 ihx best X Y hI
      obtain ⟨v1, v2⟩ := hv px py hx1 (by omega) hy1 (by omega)
      have hb := hI.1
      by_cases hc : best < htC w px py
      · obtain ⟨b, X', Y', k1, k2⟩ := ihx _ _ _ (hiI_new hI ⟨hx1, by omega⟩ hy1 hc v2.2)
        refine ⟨b, X', Y', k1, fun r w9 h => ?_⟩
        have h2 := k2 r w9 h
        rw [← v1] at h2
        apply tX5_highestPlace_28 w1 _ _ _ _ _ hH1.1 (by omega) (by omega) (by omega) (by omega) (fun _ => by rw [v1]; omega)
        · intro z; rw [e2] at z; omega
        · intro _ _ z; rw [if_pos z] at h2; exact h2
        · intro _ _ z; rw [if_neg z] at h2; exact h2
        · intro _ z; omega
      · obtain ⟨b, X', Y', k1, k2⟩ := ihx _ _ _ (hiI_stay hI (by omega))
        refine ⟨b, X', Y', k1, fun r w9 h => ?_⟩
        have h2 := k2 r w9 h
        apply tX5_highestPlace_28 w1 _ _ _ _ _ hH1.1 (by omega) (by omega) (by omega) (by omega) (fun _ => by rw [v1]; omega)
        · intro z; rw [e2] at z; omega
        · intro _ z; omega
        · intro _ z; omega
        · intro _ _; exact h2
/-- how many points lie above a time -/
theorem y_X5_countAbove (w : eW) (a b : Int) (ha : 0 ≤ a ∧ a ≤ 9999) (hb : 1 ≤ b ∧ b ≤ 9999) (hH : HH w) (hz : w 16 9 = 0 ∨ RY w) (hm : w 16 10 = 0 ∨ RMs w) : ∃ w1, Cal mX5_countAbove [eR 16, (0, a), (0, b)] w (some (0, ptN (w 2 0) (w 2 1) (fun px py => a * 10080 < htC w px py * b))) w1 ∧ Fr [16, 17, 18, 19, 21] w w1 ∧ (∀ i, i ≠ 9 → i ≠ 10 → w1 16 i = w 16 i) ∧ RMs w1 := by
  obtain ⟨⟨b1, b2, b3, b4, b5, b6⟩, b7, b8, b9⟩ := id hH.1
  obtain ⟨w1, c1, f1, o1, m1⟩ := y_X5_measureAll w hH hz hm
  have hH1 : HH w1 := HH_fr f1 hH (by decide)
  have e2 : w1 2 = w 2 := f1 2 (by decide)
  have hv : ∀ px py, 0 ≤ px → px ≤ 4 * w 2 0 → 0 ≤ py → py ≤ 4 * w 2 1 → w1 21 (py * 57 + px) = htC w px py ∧ (0 ≤ htC w px py ∧ htC w px py ≤ 200000) := fun px py h1 h2 h3 h4 => by
    have := m1.2.2.2 px py h1 (by rw [e2]; exact h2) h3 (by rw [e2]; exact h4)
    rw [htC_fr f1 (by decide)] at this
    exact ⟨this, (htC_is hH ⟨h1, h2, h3, h4⟩).2⟩
  refine ⟨w1, ?_, f1, o1, m1⟩
  generalize hP : (fun px py => a * 10080 < htC w px py * b) = P
  have hPx : ∀ px py, P px py ↔ a * 10080 < htC w px py * b := fun px py => by rw [← hP]
  have key := loop_up (P := fun py => Go mX5_countAbove 9 [(0, eR 16), (1, (0, a)), (2, (0, b)), (3, (0, ptP (w 2 0) P py 0)), (4, (0, py))] [] w1 (some (0, ptN (w 2 0) (w 2 1) P)) w1) 0 (4 * w 2 1 + 1) ?_ ?_ 0 (by omega) (by omega)
  · rw [ptP_0] at key
    exact Cal.of (by decide +kernel) (Nat.le_of_ble_eq_true rfl) (tX5_countAbove_0 w a b c1 key)
  · apply tX5_countAbove_9 w1 _ _ _ _ hH1.1 (by omega)
    · intro _; rw [ptP_all]; exact ⟨rfl, rfl⟩
    · intro z; rw [e2] at z; omega
  · intro py hy1 hy2 ih
    have row := loop_up (P := fun px => Go mX5_countAbove 26 [(0, eR 16), (1, (0, a)), (2, (0, b)), (3, (0, ptP (w 2 0) P py px)), (4, (0, py)), (5, (0, px))] [] w1 (some (0, ptN (w 2 0) (w 2 1) P)) w1) 0 (4 * w 2 0 + 1) ?_ ?_ 0 (by omega) (by omega)
    · apply tX5_countAbove_9 w1 _ _ _ _ hH1.1 (by omega)
      · intro z; rw [e2] at z; omega
      · intro _; exact row
    · apply tX5_countAbove_26 w1 _ _ _ _ _ hH1.1 (by omega) (by omega) (by omega) (by omega) (fun z => absurd (show 4 * w1 2 0 < 4 * w 2 0 + 1 by rw [e2]; omega) z) (by omega)
      · intro _; rw [ptP_py hy1] at ih; exact ih
      all_goals (intro z; rw [e2] at z; omega)
    · intro px hx1 hx2 ihx
      obtain ⟨v1, v2⟩ := hv px py hx1 (by omega) hy1 (by omega)
      rw [ptP_px hx1] at ihx
      have hpr : 0 ≤ htC w px py * b ∧ htC w px py * b ≤ 200000 * 9999 := ⟨Int.mul_nonneg v2.1 (by omega), Int.mul_le_mul v2.2 hb.2 (by omega) (by omega)⟩
      apply tX5_countAbove_26 w1 _ _ _ _ _ hH1.1 (by omega) (by omega) (by omega) (by omega) (fun _ => by rw [v1]; omega) (by omega)
      · intro z; rw [e2] at z; omega
      · intro _ z; rw [bI_1 ((hPx px py).mpr (by rw [← v1]; exact z))] at ihx; exact ihx
      · intro _ z; rw [bI_0 (fun q => z (by rw [v1]; exact (hPx px py).mp q)), Int.add_zero] at ihx; exact ihx
