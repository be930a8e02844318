theorem htC_is {w : eW} (hH : HH w) {px py : Int} (hp : 0 ≤ px ∧ px ≤ 4 * w 2 0 ∧ 0 ≤ py ∧ py ≤ 4 * w 2 1) : isHt (gC w) (w 2 0) (w 2 1) (qC w) px py (htC w px py) ∧ (0 ≤ htC w px py ∧ htC w px py ≤ 200000) := by
  have F : Fr [16] w (eU w 16 9 0) := Fr.put Fr.rf (by decide)
  obtain ⟨w1, _, _, _, _, _, _, _, h1, h2⟩ := y_X5_heightOf (eU w 16 9 0) px py (HH_fr F hH (by decide)) (Or.inl (by rw [eU_get, if_pos rfl])) hp
  rw [htC_fr F (by decide)] at h1 h2
  rw [gC_fr F (by decide), qC_fr F (by decide)] at h1
  exact ⟨h1, h2⟩
/-- all heights are measured -/
def RMs (w : eW) : Prop := w 16 10 = 1 ∧ RY w ∧ (∀ px, 0 ≤ px → px ≤ 4 * w 2 0 → RR w px) ∧ ∀ px py, 0 ≤ px → px ≤ 4 * w 2 0 → 0 ≤ py → py ≤ 4 * w 2 1 → w 21 (py * 57 + px) = htC w px py
theorem y_X5_measureAll (w : eW) (hH : HH w) (hz : w 16 9 = 0 ∨ RY w) (hm : w 16 10 = 0 ∨ RMs w) : ∃ w1, Cal mX5_measureAll [eR 16] w none w1 ∧ Fr [16, 17, 18, 19, 21] w w1 ∧ (∀ i, i ≠ 9 → i ≠ 10 → w1 16 i = w 16 i) ∧ RMs w1 := by
  have hz2 : eI (w 16 10) := by
    rcases hm with h | h
    · omega
    · have := h.1; omega
  obtain ⟨⟨b1, b2, b3, b4, b5, b6⟩, b7, b8, b9⟩ := id hH.1
  have F0 : Fr [16] w (eU w 16 10 1) := Fr.put Fr.rf (by decide)
  have hz0 : (eU w 16 10 1) 16 9 = 0 ∨ RY (eU w 16 10 1) := by
    rcases hz with h | h
    · left; rw [eU_get, if_neg (by decide)]; exact h
    · right; exact RY_fr F0 (by decide) (by rw [eU_get, if_neg (by decide)]) h
  obtain ⟨w1, c1, f1, o1, y1⟩ := y_X5_readyHouse (eU w 16 10 1) (HH_fr F0 hH (by decide)) hz0
  rcases hm.symm with hm | hm
  · refine ⟨w, Cal.of (by decide +kernel) (Nat.le_of_ble_eq_true rfl) ?_, Fr.rf, fun _ _ _ => rfl, hm⟩
    have := hm.1
    apply tX5_measureAll_0 w hz2 c1
    · intro h; omega
    · intro _; exact ⟨rfl, rfl⟩
  have FF : Fr [16, 17, 18, 19, 21] w w1 := (F0.mono (by decide)).tr (f1.mono (by decide))
  have o10 : w1 16 10 = 1 := by rw [o1 10 (by decide), eU_get, if_pos rfl]
  have oo : ∀ i, i ≠ 9 → i ≠ 10 → w1 16 i = w 16 i := fun i h1 h2 => by rw [o1 i h1, eU_get, if_neg h2]
  -- the heights of a row
  have cells : ∀ w2, Fr [16, 17, 18, 19, 21] w w2 → (∀ i, i ≠ 9 → i ≠ 10 → w2 16 i = w 16 i) → w2 16 10 = 1 → RY w2 → (∀ px, 0 ≤ px → px ≤ 4 * w 2 0 → RR w2 px) → ∃ w3, Go mX5_measureAll 45 [(0, eR 16), (1, (0, 0))] [] w2 none w3 ∧ Fr [16, 17, 18, 19, 21] w w3 ∧ (∀ i, i ≠ 9 → i ≠ 10 → w3 16 i = w 16 i) ∧ RMs w3 := by
    intro w2 hF2 ho2 h102 hY2 hR2
    have key := loop_up (P := fun py => ∀ w0, Fr [21] w2 w0 → (∀ i j, 0 ≤ i → i ≤ 4 * w 2 0 → 0 ≤ j → j < py → w0 21 (j * 57 + i) = htC w i j) → ∃ w3, Go mX5_measureAll 45 [(0, eR 16), (1, (0, py))] [] w0 none w3 ∧ Fr [21] w2 w3 ∧ ∀ i j, 0 ≤ i → i ≤ 4 * w 2 0 → 0 ≤ j → j ≤ 4 * w 2 1 → w3 21 (j * 57 + i) = htC w i j) 0 (4 * w 2 1 + 1) ?_ ?_ 0 (by omega) (by omega) w2 Fr.rf (fun i j h1 h2 h3 h4 => by omega)
    · obtain ⟨w3, k1, k2, k3⟩ := key
      have hF3 : Fr [16, 17, 18, 19, 21] w w3 := hF2.tr (k2.mono (by decide))
      refine ⟨w3, k1, hF3, fun i h1 h2 => ?_, ?_, ?_, ?_, ?_⟩
      · rw [k2.at 16 (by decide)]; exact ho2 i h1 h2
      · rw [k2.at 16 (by decide)]; exact h102
      · exact RY_fr k2 (by decide) (k2.at 16 (by decide) 9) hY2
      · intro px h1 h2
        rw [hF3.at 2 (by decide)] at h2
        exact RR_fr k2 (by decide) (hR2 px h1 h2)
      · intro px py h1 h2 h3 h4
        rw [hF3.at 2 (by decide)] at h2 h4
        rw [htC_fr hF3 (by decide)]
        exact k3 px py h1 h2 h3 h4
    · intro w0 hF hI
      have hFw : Fr [16, 17, 18, 19, 21] w w0 := hF2.tr (hF.mono (by decide))
      have e2 : w0 2 = w 2 := hFw 2 (by decide)
      refine ⟨w0, ?_, hF, fun i j h1 h2 h3 h4 => hI i j h1 h2 h3 (by omega)⟩
      apply tX5_measureAll_45 w0 _ (HB_fr hFw hH.1 (by decide)) (by omega)
      · intro _; exact ⟨rfl, rfl⟩
      · intro z; rw [e2] at z; omega
    · intro py hy1 hy2 ih w0 hF hI
      have row := loop_up (P := fun px => ∀ w0, Fr [21] w2 w0 → (∀ i j, 0 ≤ i → i ≤ 4 * w 2 0 → 0 ≤ j → (j < py ∨ (j = py ∧ i < px)) → w0 21 (j * 57 + i) = htC w i j) → ∃ w3, Fr [21] w2 w3 ∧ (∀ i j, 0 ≤ i → i ≤ 4 * w 2 0 → 0 ≤ j → j < py + 1 → w3 21 (j * 57 + i) = htC w i j) ∧ ∀ (r : Option eV) (w9 : eW), Go mX5_measureAll 45 [(0, eR 16), (1, (0, py + 1))] [] w3 r w9 → Go mX5_measureAll 60 [(0, eR 16), (1, (0, py)), (2, (0, px))] [] w0 r w9) 0 (4 * w 2 0 + 1) ?_ ?_ 0 (by omega) (by omega) w0 hF (fun i j h1 h2 h3 h4 => hI i j h1 h2 h3 (by omega))
      · obtain ⟨w3, k1, k2, k3⟩ := row
        obtain ⟨w4, l1, l2, l3⟩ := ih w3 k1 k2
        refine ⟨w4, ?_, l2, l3⟩
        have hFw : Fr [16, 17, 18, 19, 21] w w0 := hF2.tr (hF.mono (by decide))
        have e2 : w0 2 = w 2 := hFw 2 (by decide)
        apply tX5_measureAll_45 w0 _ (HB_fr hFw hH.1 (by decide)) (by omega)
        · intro z; rw [e2] at z; omega
        · intro _; exact k3 _ _ l1
      · intro w0 hF hI
        have hFw : Fr [16, 17, 18, 19, 21] w w0 := hF2.tr (hF.mono (by decide))
        have e2 : w0 2 = w 2 := hFw 2 (by decide)
        refine ⟨w0, hF, fun i j h1 h2 h3 h4 => hI i j h1 h2 h3 (by omega), fun r w9 h => ?_⟩
        apply tX5_measureAll_60 w0 _ _ 0 (HB_fr hFw hH.1 (by decide)) (by omega) (by omega) (fun z => absurd (show 4 * w0 2 0 < 4 * w 2 0 + 1 by rw [e2]; omega) z)
        · intro _; exact h
        all_goals (intro z; rw [e2] at z; omega)
      · intro px hx1 hx2 ihx w0 hF hI
        have hFw : Fr [16, 17, 18, 19, 21] w w0 := hF2.tr (hF.mono (by decide))
        have e2 : w0 2 = w 2 := hFw 2 (by decide)
        have hH0 : HH w0 := HH_fr hFw hH (by decide)
        have hp : 0 ≤ px ∧ px ≤ 4 * w0 2 0 ∧ 0 ≤ py ∧ py ≤ 4 * w0 2 1 := by rw [e2]; omega
        obtain ⟨h, h1, h2, h3⟩ := y_X5_leastReach w0 px py hH0 (RY_fr hF (by decide) (hF.at 16 (by decide) 9) hY2) (RR_fr hF (by decide) (hR2 px hx1 (by omega))) hp
        have eh : htC w px py = h := by
          have : htC w0 px py = h := htQ_is h1
          rw [htC_fr hFw (by decide)] at this
          exact this
        obtain ⟨w3, k1, k2, k3⟩ := ihx (eU w0 21 (py * 57 + px) h) (hF.put (by decide)) (fun i j i1 i2 i3 i4 => by
          rw [eU_get]
          by_cases hc : j * 57 + i = py * 57 + px
          · rw [if_pos hc, show i = px by omega, show j = py by omega, eh]
          · rw [if_neg hc]; exact hI i j i1 i2 i3 (by omega))
        refine ⟨w3, k1, k2, fun r w9 hg => ?_⟩
        have hg2 := k3 r w9 hg
        apply tX5_measureAll_60 w0 _ _ h (HB_fr hFw hH.1 (by decide)) (by omega) (by omega) (fun _ => h3)
        · intro z; rw [e2] at z; omega
        · intro _ z; omega
        · intro _ _ _; exact hg2
        · intro _ _ z; omega
  -- the rows of all places
  have rows := loop_up (P := fun px => ∀ w2, Fr [19] w1 w2 → (∀ p, 0 ≤ p → p < px → RR w2 p) → ∃ w3, Go mX5_measureAll 19 [(0, eR 16), (1, (0, px))] [] w2 none w3 ∧ Fr [16, 17, 18, 19, 21] w w3 ∧ (∀ i, i ≠ 9 → i ≠ 10 → w3 16 i = w 16 i) ∧ RMs w3) 0 (4 * w 2 0 + 1) ?_ ?_ 0 (by omega) (by omega) w1 Fr.rf (fun p h1 h2 => by omega)
  · obtain ⟨w3, k1, k2, k3, k4⟩ := rows
    refine ⟨w3, Cal.of (by decide +kernel) (Nat.le_of_ble_eq_true rfl) ?_, k2, k3, k4⟩
    apply tX5_measureAll_0 w hz2 c1
    · intro _; exact k1
    · intro z; exact absurd hm z
  · intro w2 hF hR
    have hFw : Fr [16, 17, 18, 19, 21] w w2 := FF.tr (hF.mono (by decide))
    have e2 : w2 2 = w 2 := hFw 2 (by decide)
    obtain ⟨w3, k1, k2, k3, k4⟩ := cells w2 hFw (fun i h1 h2 => by rw [hF.at 16 (by decide)]; exact oo i h1 h2) (by rw [hF.at 16 (by decide)]; exact o10) (RY_fr hF (by decide) (hF.at 16 (by decide) 9) y1) (fun p h1 h2 => hR p h1 (by omega))
    refine ⟨w3, ?_, k2, k3, k4⟩
    apply tX5_measureAll_19 w2 _ (w1 := w2) (HB_fr hFw hH.1 (by decide)) (by omega) (fun z => absurd (show 4 * w2 2 0 < 4 * w 2 0 + 1 by rw [e2]; omega) z)
    · intro _; exact k1
    · intro z; rw [e2] at z; omega
  · intro px hx1 hx2 ih w2 hF hR
    have hFw : Fr [16, 17, 18, 19, 21] w w2 := FF.tr (hF.mono (by decide))
    have e2 : w2 2 = w 2 := hFw 2 (by decide)
    have hH2 : HH w2 := HH_fr hFw hH (by decide)
    obtain ⟨w3, c3, f3, r3, k3⟩ := y_X5_readyRows w2 px (by omega) hH2 (RY_fr hF (by decide) (hF.at 16 (by decide) 9) y1)
    obtain ⟨w4, l1, l2⟩ := ih w3 (hF.tr f3) (fun p p1 p2 => by
      by_cases hp : p = px
      · rw [hp]; exact r3
      · intro y hy1 hy2
        rw [f3.at 2 (by decide), e2] at hy2
        rw [k3 _ (by omega), rT_fr f3 (by decide)]
        exact hR p p1 (by omega) y hy1 (by rw [e2]; exact hy2))
    refine ⟨w4, ?_, l2⟩
    apply tX5_measureAll_19 w2 _ (HB_fr hFw hH.1 (by decide)) (by omega) (fun _ => c3)
    · intro z; rw [e2] at z; omega
    · intro _; exact l1
