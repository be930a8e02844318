/-- the class's height, by name -/
noncomputable def htC (w : eW) (px py : Int) : Int := htQ (gC w) (w 2 0) (w 2 1) (qC w) px py
theorem htC_fr {S : List Nat} {w w1 : eW} (h : Fr S w w1) (hS : 2 ∉ S ∧ 3 ∉ S ∧ 4 ∉ S) : htC w1 = htC w := by
  unfold htC
  rw [gC_fr h ⟨hS.1, hS.2.1⟩, qC_fr h hS.2.2, h 2 hS.1]
theorem RY_fr {S : List Nat} {w w1 : eW} (h : Fr S w w1) (hS : 2 ∉ S ∧ 3 ∉ S ∧ 4 ∉ S ∧ 17 ∉ S ∧ 18 ∉ S) (h9 : w1 16 9 = w 16 9) (hY : RY w) : RY w1 := by
  unfold RY insC at *
  rw [h9, h 17 hS.2.2.2.1, h 18 hS.2.2.2.2, qC_fr h hS.2.2.1, h 2 hS.1, h 3 hS.2.1]
  exact hY
theorem RR_fr {S : List Nat} {w w1 : eW} (h : Fr S w w1) (hS : 2 ∉ S ∧ 3 ∉ S ∧ 4 ∉ S ∧ 19 ∉ S) {px : Int} (hR : RR w px) : RR w1 px := by
  unfold RR at *
  rw [rT_fr h ⟨hS.1, hS.2.1, hS.2.2.1⟩, h 2 hS.1, h 19 hS.2.2.2]
  exact hR
theorem RQ_fr {S : List Nat} {w w1 : eW} (h : Fr S w w1) (hS : 4 ∉ S ∧ 18 ∉ S ∧ 20 ∉ S) {py : Int} (hR : RQ w py) : RQ w1 py := by
  unfold RQ at *
  rw [qC_fr h hS.1, h 18 hS.2.1, h 20 hS.2.2]
  exact hR
theorem y_X5_heightOf (w : eW) (px py : Int) (hH : HH w) (hz : w 16 9 = 0 ∨ RY w) (hp : 0 ≤ px ∧ px ≤ 4 * w 2 0 ∧ 0 ≤ py ∧ py ≤ 4 * w 2 1) : ∃ w1, Cal mX5_heightOf [eR 16, (0, px), (0, py)] w (some (0, htC w px py)) w1 ∧ Fr [16, 17, 18, 19, 20] w w1 ∧ (∀ i, i ≠ 9 → w1 16 i = w 16 i) ∧ RY w1 ∧ RR w1 px ∧ RQ w1 py ∧ (∀ p, RR w p → RR w1 p) ∧ isHt (gC w) (w 2 0) (w 2 1) (qC w) px py (htC w px py) ∧ (0 ≤ htC w px py ∧ htC w px py ≤ 200000) := by
  obtain ⟨⟨b1, b2, b3, b4, b5, b6⟩, b7, b8, b9⟩ := id hH.1
  obtain ⟨w1, c1, f1, g1, y1⟩ := y_X5_readyHouse w hH hz
  have hH1 : HH w1 := HH_fr f1 hH (by decide)
  obtain ⟨w2, c2, f2, r2, k2⟩ := y_X5_readyRows w1 px (by omega) hH1 y1
  have hH2 : HH w2 := HH_fr f2 hH1 (by decide)
  have y2 : RY w2 := RY_fr f2 (by decide) (f2.at 16 (by decide) 9) y1
  obtain ⟨w3, c3, f3, q3⟩ := y_X5_readyColumns w2 py (by omega) hH2 y2
  have hH3 : HH w3 := HH_fr f3 hH2 (by decide)
  have y3 : RY w3 := RY_fr f3 (by decide) (f3.at 16 (by decide) 9) y2
  have r3 : RR w3 px := RR_fr f3 (by decide) r2
  have F : Fr [16, 17, 18, 19, 20] w w3 := ((f1.mono (by decide)).tr (f2.mono (by decide))).tr (f3.mono (by decide))
  have e2 : w3 2 = w 2 := F 2 (by decide)
  obtain ⟨h, h1, h2, h3⟩ := y_X5_leastReach w3 px py hH3 y3 r3 (by rw [e2]; exact hp)
  rw [gC_fr F (by decide), qC_fr F (by decide), e2] at h1
  have eh : htC w px py = h := htQ_is h1
  rw [eh]
  refine ⟨w3, Cal.of (by decide +kernel) (Nat.le_of_ble_eq_true rfl) (tX5_heightOf_0 w px py c1 c2 c3 h3 ⟨rfl, rfl⟩), F, fun i hi => ?_, y3, r3, q3, fun p hp2 => ?_, h1, h2⟩
  · rw [f3.at 16 (by decide), f2.at 16 (by decide)]; exact g1 i hi
  · refine RR_fr f3 (by decide) ?_
    by_cases hpp : p = px
    · rw [hpp]; exact r2
    · have hq : RR w1 p := RR_fr f1 (by decide) hp2
      intro y hy1 hy2
      have e21 : w2 2 1 = w1 2 1 := f2.at 2 (by decide) 1
      have e11 : w1 2 1 = w 2 1 := f1.at 2 (by decide) 1
      rw [k2 _ (by omega), rT_fr f2 (by decide)]
      exact hq y hy1 (by omega)
theorem rT_at {w : eW} (hH : HH w) {px : Int} (hp : 0 ≤ px ∧ px ≤ 4 * w 2 0) (y : Int) : laneT (fun x => gC w x y = 1) (w 2 0) px (qC w 1) (qC w 3) (rT w px y) := by
  obtain ⟨⟨b1, b2, b3, b4, b5, b6⟩, b7, b8, b9⟩ := id hH.1
  have q1 := qC_b hH 1 (by decide) (by decide)
  have q3 := qC_b hH 3 (by decide) (by decide)
  exact isN_lane (by omega) (by omega) (fun x => by rw [hb_ins hH]; exact gC_1.symm) (fun x z => (gC_1.mp z).2.1) (by omega) hp.2 (nT_isN (rowAt_b hH.1 y) (by omega) (by omega) (by omega))
theorem hb_col {w : eW} (hH : HH w) (hY : RY w) (x y : Int) : hb14 (colAt w x) y ↔ insC w x y := by
  obtain ⟨⟨b1, b2, b3, b4, b5, b6⟩, b7, b8, b9⟩ := id hH.1
  by_cases hx : 0 ≤ x ∧ x < 14
  · unfold colAt
    rw [if_neg (by omega), if_pos hx.2]
    exact (hY.2.2 x hx.1 hx.2).2 y
  · have : colAt w x = 0 := by unfold colAt; (repeat' split) <;> omega
    rw [this]
    constructor
    · intro h
      have := h.2.2
      rw [Int.zero_ediv] at this
      exact absurd this (by decide)
    · intro h; exact absurd h (fun z => hx ⟨z.1, by have := z.2.1; omega⟩)
theorem colAt_b {w : eW} (hY : RY w) (x : Int) : 0 ≤ colAt w x ∧ colAt w x < 16384 := by
  by_cases hx : 0 ≤ x ∧ x < 14
  · unfold colAt
    rw [if_neg (by omega), if_pos hx.2]
    exact (hY.2.2 x hx.1 hx.2).1
  · unfold colAt; (repeat' split) <;> omega
theorem cT_nT {w : eW} (hH : HH w) {py : Int} (hQ : RQ w py) (hp : 0 ≤ py ∧ py ≤ 40) (x : Int) : cT w x = nT (colAt w x) py (qC w 2) (qC w 0) := by
  have q2 := qC_b hH 2 (by decide) (by decide)
  have q0 := qC_b hH 0 (by decide) (by decide)
  unfold cT colAt
  by_cases h1 : x < 0
  · rw [if_pos h1, if_pos h1, nT_0 (by omega) (by omega) (by omega)]
  · rw [if_neg h1, if_neg h1]
    by_cases h2 : x < 14
    · rw [if_pos h2, if_pos h2]
      exact hQ x (by omega) h2
    · rw [if_neg h2, if_neg h2, nT_0 (by omega) (by omega) (by omega)]
theorem cT_at {w : eW} (hH : HH w) (hY : RY w) {py : Int} (hQ : RQ w py) (hp : 0 ≤ py ∧ py ≤ 4 * w 2 1) (x : Int) : laneT (fun y => gC w x y = 1) (w 2 1) py (qC w 2) (qC w 0) (cT w x) ∧ (0 ≤ cT w x ∧ cT w x ≤ 200000) := by
  obtain ⟨⟨b1, b2, b3, b4, b5, b6⟩, b7, b8, b9⟩ := id hH.1
  have q2 := qC_b hH 2 (by decide) (by decide)
  have q0 := qC_b hH 0 (by decide) (by decide)
  rw [cT_nT hH hQ (by omega)]
  exact ⟨isN_lane (by omega) (by omega) (fun y => by rw [hb_col hH hY]; exact gC_1.symm) (fun y z => (gC_1.mp z).2.2.2.1) (by omega) hp.2 (nT_isN (colAt_b hY x) (by omega) (by omega) (by omega)), nT_b (colAt_b hY x) (by omega) (by omega) (by omega)⟩
theorem or_b0 {a : Int} (h : 0 ≤ a ∧ a < 1) : eOr a (1 * 2 ^ (0 : Int).toNat) = a + 1 := by
  have : a = 0 := by omega
  subst this; decide
theorem or_b1 {a : Int} (h : 0 ≤ a ∧ a < 2) : eOr a (1 * 2 ^ (1 : Int).toNat) = a + 2 := by
  have : a = 0 ∨ a = 1 := by omega
  rcases this with e | e <;> subst e <;> decide
theorem or_b2 {a : Int} (h : 0 ≤ a ∧ a < 4) : eOr a (1 * 2 ^ (2 : Int).toNat) = a + 4 := by
  have : a = 0 ∨ a = 1 ∨ a = 2 ∨ a = 3 := by omega
  rcases this with e | e | e | e <;> subst e <;> decide
theorem or_b3 {a : Int} (h : 0 ≤ a ∧ a < 8) : eOr a (1 * 2 ^ (3 : Int).toNat) = a + 8 := by
  have : a = 0 ∨ a = 1 ∨ a = 2 ∨ a = 3 ∨ a = 4 ∨ a = 5 ∨ a = 6 ∨ a = 7 := by omega
  rcases this with e | e | e | e | e | e | e | e <;> subst e <;> decide
/-- laneAt answers the lane -/
theorem y_X5_laneAt (w : eW) (px py h : Int) (hH : HH w) (hY : RY w) (hp : 0 ≤ px ∧ px ≤ 56 ∧ 0 ≤ py ∧ py ≤ 40) (hh : 0 ≤ h ∧ h ≤ 200000) : ∀ s, 0 ≤ s → s < 4 → Cal mX5_laneAt [eR 16, (0, s), (0, px), (0, py), (0, h)] w (some (0, lnS (qC w) px py h s)) w := by
  intro s h1 h2
  obtain ⟨y1, y2, y3⟩ := id hY
  have hc : s = 0 ∨ s = 1 ∨ s = 2 ∨ s = 3 := by omega
  have hq := qC_b hH s h1 h2
  have e := y2 s h1 h2
  rcases hc with c | c | c | c <;> subst c
  · refine Cal.as (zX5_laneAt0 w px py h (by omega) (by omega) hp hh (by omega)) ?_ rfl
    show some (0, lnB (w 17 0) py h) = some (0, lnB (qC w 0) py h)
    rw [e]
  · refine Cal.as (zX5_laneAt1 w px py h (by omega) (by omega) hp hh (by omega)) ?_ rfl
    show some (0, lnF (w 17 1) px h) = some (0, lnF (qC w 1) px h)
    rw [e]
  · refine Cal.as (zX5_laneAt2 w px py h (by omega) (by omega) hp hh (by omega)) ?_ rfl
    show some (0, lnF (w 17 2) py h) = some (0, lnF (qC w 2) py h)
    rw [e]
  · refine Cal.as (zX5_laneAt3 w px py h (by omega) (by omega) hp hh (by omega)) ?_ rfl
    show some (0, lnB (w 17 3) px h) = some (0, lnB (qC w 3) px h)
    rw [e]
theorem gC_in {w : eW} : ∀ x y, gC w x y = 1 → 0 ≤ x ∧ x < w 2 0 ∧ 0 ≤ y ∧ y < w 2 1 := fun x y z => by
  have := gC_1.mp z
  omega
theorem y_X5_slopesAt (w : eW) (px py h : Int) (hH : HH w) (hY : RY w) (hR : RR w px) (hQ : RQ w py) (hp : 0 ≤ px ∧ px ≤ 4 * w 2 0 ∧ 0 ≤ py ∧ py ≤ 4 * w 2 1) (hi : isHt (gC w) (w 2 0) (w 2 1) (qC w) px py h) (hh : 0 ≤ h ∧ h ≤ 200000) : Cal mX5_slopesAt [eR 16, (0, px), (0, py), (0, h)] w (some (0, slQ (gC w) (w 2 0) (w 2 1) (qC w) px py h)) w := by
  obtain ⟨⟨b1, b2, b3, b4, b5, b6⟩, b7, b8, b9⟩ := id hH.1
  have hq := qC_b hH
  have hpx : 0 ≤ px ∧ px ≤ 56 ∧ 0 ≤ py ∧ py ≤ 40 := by omega
  have hla := y_X5_laneAt w px py h hH hY hpx hh
  have hlb : ∀ s, 0 ≤ s → s < 4 → -9 ≤ lnS (qC w) px py h s ∧ lnS (qC w) px py h s ≤ 60000 := by
    intro s h1 h2
    have q0 := hq 0 (by decide) (by decide)
    have q1 := hq 1 (by decide) (by decide)
    have q2 := hq 2 (by decide) (by decide)
    have q3 := hq 3 (by decide) (by decide)
    have k0 := lnB_b (t := qC w 0) (o := py) (h := h) (by omega) (by omega) (by omega)
    have k1 := lnF_b (t := qC w 1) (o := px) (h := h) (by omega) (by omega) (by omega)
    have k2 := lnF_b (t := qC w 2) (o := py) (h := h) (by omega) (by omega) (by omega)
    have k3 := lnB_b (t := qC w 3) (o := px) (h := h) (by omega) (by omega) (by omega)
    unfold lnS
    (repeat' split) <;> omega
  refine Cal.of (by decide +kernel) (Nat.le_of_ble_eq_true rfl) (tX5_slopesAt_0 w px py h ?_)
  rcases Int.lt_or_le 0 h with h0 | h0
  · unfold slQ
    rw [if_pos h0]
    have hout := ht_out hq gC_in hp hi
    have hln : ∀ s : Int, 0 ≤ s → s < 4 → (lnS (qC w) px py h s = -9 ∨ (-1 ≤ lnS (qC w) px py h s ∧ lnS (qC w) px py h s ≤ if s = 0 ∨ s = 2 then w 2 1 else w 2 0)) := fun s h1 h2 => lane_in hq hp ⟨b2, b4⟩ ⟨h0, hh.2⟩ hout.1 hout.2 ⟨h1, h2⟩
    have P0 := slP_lane hq (g := gC w) (W := w 2 0) (H := w 2 1) (s := 0) (t := rT w px (lnS (qC w) px py h 0)) ⟨hp.1, hp.2.2.1⟩ h0 (by decide) (hln 0 (by decide) (by decide)) (rT_at hH ⟨hp.1, hp.2.1⟩ _)
    have P1 := slP_lane hq (g := gC w) (W := w 2 0) (H := w 2 1) (s := 1) (t := cT w (lnS (qC w) px py h 1)) ⟨hp.1, hp.2.2.1⟩ h0 (by decide) (hln 1 (by decide) (by decide)) (cT_at hH hY hQ hp.2.2 _).1
    have P2 := slP_lane hq (g := gC w) (W := w 2 0) (H := w 2 1) (s := 2) (t := rT w px (lnS (qC w) px py h 2)) ⟨hp.1, hp.2.2.1⟩ h0 (by decide) (hln 2 (by decide) (by decide)) (rT_at hH ⟨hp.1, hp.2.1⟩ _)
    have P3 := slP_lane hq (g := gC w) (W := w 2 0) (H := w 2 1) (s := 3) (t := cT w (lnS (qC w) px py h 3)) ⟨hp.1, hp.2.2.1⟩ h0 (by decide) (hln 3 (by decide) (by decide)) (cT_at hH hY hQ hp.2.2 _).1
    have B0 := bI_b (slP (gC w) (w 2 0) (w 2 1) (qC w) px py h 0)
    have B1 := bI_b (slP (gC w) (w 2 0) (w 2 1) (qC w) px py h 1)
    have B2 := bI_b (slP (gC w) (w 2 0) (w 2 1) (qC w) px py h 2)
    have st0 : ∀ (r : Option eV) (w9 : eW), Go mX5_slopesAt 6 [(0, eR 16), (1, (0, px)), (2, (0, py)), (3, (0, h)), (4, (0, bI (slP (gC w) (w 2 0) (w 2 1) (qC w) px py h 0))), (5, (0, 0 + 1))] [] w r w9 → Go mX5_slopesAt 6 [(0, eR 16), (1, (0, px)), (2, (0, py)), (3, (0, h)), (4, (0, 0)), (5, (0, 0))] [] w r w9 := by
      intro r w9 hgo
      by_cases hs : slP (gC w) (w 2 0) (w 2 1) (qC w) px py h 0
      · have e := P0.mp hs
        rw [bI_1 hs] at hgo
        refine tX5_slopesAt0_6 w px py h _ hH hR hpx hh _ (hla 0 (by decide) (by decide)) (hlb 0 (by decide) (by decide)) ?_ ?_ ?_ ?_
        · intro _ z; exact absurd z e.1
        · intro _ _ z; omega
        · intro _ _ _
          rw [or_b0 (by omega)]
          exact hgo
        · intro z; omega
      · rw [bI_0 hs] at hgo
        refine tX5_slopesAt0_6 w px py h _ hH hR hpx hh _ (hla 0 (by decide) (by decide)) (hlb 0 (by decide) (by decide)) ?_ ?_ ?_ ?_
        · intro _ _; exact hgo
        · intro _ _ _; exact hgo
        · intro _ z1 z2; exact absurd (P0.mpr ⟨z1, by omega⟩) hs
        · intro z; omega
    have st1 : ∀ (r : Option eV) (w9 : eW), Go mX5_slopesAt 6 [(0, eR 16), (1, (0, px)), (2, (0, py)), (3, (0, h)), (4, (0, bI (slP (gC w) (w 2 0) (w 2 1) (qC w) px py h 0) + 2 * bI (slP (gC w) (w 2 0) (w 2 1) (qC w) px py h 1))), (5, (0, 1 + 1))] [] w r w9 → Go mX5_slopesAt 6 [(0, eR 16), (1, (0, px)), (2, (0, py)), (3, (0, h)), (4, (0, bI (slP (gC w) (w 2 0) (w 2 1) (qC w) px py h 0))), (5, (0, 1))] [] w r w9 := by
      intro r w9 hgo
      by_cases hs : slP (gC w) (w 2 0) (w 2 1) (qC w) px py h 1
      · have e := P1.mp hs
        rw [bI_1 hs] at hgo
        refine tX5_slopesAt1_6 w px py h _ hH hR hpx hh _ (hla 1 (by decide) (by decide)) (hlb 1 (by decide) (by decide)) (cT_at hH hY hQ hp.2.2 _).2 ?_ ?_ ?_ ?_
        · intro _ z; exact absurd z e.1
        · intro _ _ z; omega
        · intro _ _ _
          rw [or_b1 (by omega)]
          exact hgo
        · intro z; omega
      · rw [bI_0 hs] at hgo
        rw [show bI (slP (gC w) (w 2 0) (w 2 1) (qC w) px py h 0) + 2 * 0 = bI (slP (gC w) (w 2 0) (w 2 1) (qC w) px py h 0) by omega] at hgo
        refine tX5_slopesAt1_6 w px py h _ hH hR hpx hh _ (hla 1 (by decide) (by decide)) (hlb 1 (by decide) (by decide)) (cT_at hH hY hQ hp.2.2 _).2 ?_ ?_ ?_ ?_
        · intro _ _; exact hgo
        · intro _ _ _; exact hgo
        · intro _ z1 z2; exact absurd (P1.mpr ⟨z1, by omega⟩) hs
        · intro z; omega
    have st2 : ∀ (r : Option eV) (w9 : eW), Go mX5_slopesAt 6 [(0, eR 16), (1, (0, px)), (2, (0, py)), (3, (0, h)), (4, (0, bI (slP (gC w) (w 2 0) (w 2 1) (qC w) px py h 0) + 2 * bI (slP (gC w) (w 2 0) (w 2 1) (qC w) px py h 1) + 4 * bI (slP (gC w) (w 2 0) (w 2 1) (qC w) px py h 2))), (5, (0, 2 + 1))] [] w r w9 → Go mX5_slopesAt 6 [(0, eR 16), (1, (0, px)), (2, (0, py)), (3, (0, h)), (4, (0, bI (slP (gC w) (w 2 0) (w 2 1) (qC w) px py h 0) + 2 * bI (slP (gC w) (w 2 0) (w 2 1) (qC w) px py h 1))), (5, (0, 2))] [] w r w9 := by
      intro r w9 hgo
      by_cases hs : slP (gC w) (w 2 0) (w 2 1) (qC w) px py h 2
      · have e := P2.mp hs
        rw [bI_1 hs] at hgo
        refine tX5_slopesAt2_6 w px py h _ hH hR hpx hh _ (hla 2 (by decide) (by decide)) (hlb 2 (by decide) (by decide)) ?_ ?_ ?_ ?_
        · intro _ z; exact absurd z e.1
        · intro _ _ z; omega
        · intro _ _ _
          rw [or_b2 (by omega)]
          exact hgo
        · intro z; omega
      · rw [bI_0 hs] at hgo
        rw [show bI (slP (gC w) (w 2 0) (w 2 1) (qC w) px py h 0) + 2 * bI (slP (gC w) (w 2 0) (w 2 1) (qC w) px py h 1) + 4 * 0 = bI (slP (gC w) (w 2 0) (w 2 1) (qC w) px py h 0) + 2 * bI (slP (gC w) (w 2 0) (w 2 1) (qC w) px py h 1) by omega] at hgo
        refine tX5_slopesAt2_6 w px py h _ hH hR hpx hh _ (hla 2 (by decide) (by decide)) (hlb 2 (by decide) (by decide)) ?_ ?_ ?_ ?_
        · intro _ _; exact hgo
        · intro _ _ _; exact hgo
        · intro _ z1 z2; exact absurd (P2.mpr ⟨z1, by omega⟩) hs
        · intro z; omega
    have st3 : ∀ (r : Option eV) (w9 : eW), Go mX5_slopesAt 6 [(0, eR 16), (1, (0, px)), (2, (0, py)), (3, (0, h)), (4, (0, bI (slP (gC w) (w 2 0) (w 2 1) (qC w) px py h 0) + 2 * bI (slP (gC w) (w 2 0) (w 2 1) (qC w) px py h 1) + 4 * bI (slP (gC w) (w 2 0) (w 2 1) (qC w) px py h 2) + 8 * bI (slP (gC w) (w 2 0) (w 2 1) (qC w) px py h 3))), (5, (0, 3 + 1))] [] w r w9 → Go mX5_slopesAt 6 [(0, eR 16), (1, (0, px)), (2, (0, py)), (3, (0, h)), (4, (0, bI (slP (gC w) (w 2 0) (w 2 1) (qC w) px py h 0) + 2 * bI (slP (gC w) (w 2 0) (w 2 1) (qC w) px py h 1) + 4 * bI (slP (gC w) (w 2 0) (w 2 1) (qC w) px py h 2))), (5, (0, 3))] [] w r w9 := by
      intro r w9 hgo
      by_cases hs : slP (gC w) (w 2 0) (w 2 1) (qC w) px py h 3
      · have e := P3.mp hs
        rw [bI_1 hs] at hgo
        refine tX5_slopesAt3_6 w px py h _ hH hR hpx hh _ (hla 3 (by decide) (by decide)) (hlb 3 (by decide) (by decide)) (cT_at hH hY hQ hp.2.2 _).2 ?_ ?_ ?_ ?_
        · intro _ z; exact absurd z e.1
        · intro _ _ z; omega
        · intro _ _ _
          rw [or_b3 (by omega)]
          exact hgo
        · intro z; omega
      · rw [bI_0 hs] at hgo
        rw [show bI (slP (gC w) (w 2 0) (w 2 1) (qC w) px py h 0) + 2 * bI (slP (gC w) (w 2 0) (w 2 1) (qC w) px py h 1) + 4 * bI (slP (gC w) (w 2 0) (w 2 1) (qC w) px py h 2) + 8 * 0 = bI (slP (gC w) (w 2 0) (w 2 1) (qC w) px py h 0) + 2 * bI (slP (gC w) (w 2 0) (w 2 1) (qC w) px py h 1) + 4 * bI (slP (gC w) (w 2 0) (w 2 1) (qC w) px py h 2) by omega] at hgo
        refine tX5_slopesAt3_6 w px py h _ hH hR hpx hh _ (hla 3 (by decide) (by decide)) (hlb 3 (by decide) (by decide)) (cT_at hH hY hQ hp.2.2 _).2 ?_ ?_ ?_ ?_
        · intro _ _; exact hgo
        · intro _ _ _; exact hgo
        · intro _ z1 z2; exact absurd (P3.mpr ⟨z1, by omega⟩) hs
        · intro z; omega
    refine st0 _ _ (st1 _ _ (st2 _ _ (st3 _ _ ?_)))
    exact tX5_slopesAt4_6 w px py h _ hH hR hpx hh ⟨rfl, rfl⟩
  · unfold slQ
    rw [if_neg (by omega)]
    refine tX5_slopesAt0_6 w px py h _ hH hR hpx hh _ (hla 0 (by decide) (by decide)) (hlb 0 (by decide) (by decide)) ?_ ?_ ?_ ?_
    all_goals (intros; first | exact ⟨rfl, rfl⟩ | (exfalso; omega))
