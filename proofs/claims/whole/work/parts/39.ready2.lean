theorem eQt_div {p : Int} (h1 : 1 ≤ p) (h2 : p ≤ 9) : eQt p = 2520 / p := by
  have : p = 1 ∨ p = 2 ∨ p = 3 ∨ p = 4 ∨ p = 5 ∨ p = 6 ∨ p = 7 ∨ p = 8 ∨ p = 9 := by omega
  rcases this with h | h | h | h | h | h | h | h | h <;> subst h <;> decide
theorem HH_fr {S : List Nat} {w w1 : eW} (h : Fr S w w1) (hH : HH w) (hS : 2 ∉ S ∧ 3 ∉ S ∧ 4 ∉ S ∧ 5 ∉ S) : HH w1 := by
  obtain ⟨h1, h2, h3⟩ := hH
  refine ⟨HB_fr h h1 hS, ?_⟩
  rw [h 2 hS.1, h 3 hS.2.1, h 4 hS.2.2.1]
  exact ⟨h2, h3⟩
theorem qC_fr {S : List Nat} {w w1 : eW} (h : Fr S w w1) (hS : 4 ∉ S) : qC w1 = qC w := by
  unfold qC
  rw [h 4 hS]
theorem rowAt_fr {S : List Nat} {w w1 : eW} (h : Fr S w w1) (hS : 2 ∉ S ∧ 3 ∉ S) : rowAt w1 = rowAt w := by
  unfold rowAt
  rw [h 2 hS.1, h 3 hS.2]
theorem rT_fr {S : List Nat} {w w1 : eW} (h : Fr S w w1) (hS : 2 ∉ S ∧ 3 ∉ S ∧ 4 ∉ S) : rT w1 = rT w := by
  unfold rT
  rw [rowAt_fr h ⟨hS.1, hS.2.1⟩, qC_fr h hS.2.2]
/-- a bit put at its place -/
theorem bit_put {b y : Int} (hb : b = 0 ∨ b = 1) (hy : 0 ≤ y ∧ y < 14) : (0 ≤ b * 2 ^ y.toNat ∧ b * 2 ^ y.toNat < 2 ^ 14) ∧ ∀ j, 0 ≤ j → bitv (b * 2 ^ y.toNat) j = if j = y then b else 0 := by
  have hp : (2 : Int) ^ y.toNat < 2 ^ 14 := by
    rw [e_two, e_two]
    have := Nat.pow_lt_pow_right (a := 2) (by decide) (show y.toNat < 14 by omega)
    omega
  have hq : (0 : Int) ≤ 2 ^ y.toNat := by rw [e_two]; exact Int.natCast_nonneg _
  rcases hb with h | h
  · subst h
    rw [Int.zero_mul]
    refine ⟨by decide, fun j hj => ?_⟩
    unfold bitv
    rw [Int.zero_ediv]
    split <;> rfl
  · subst h
    rw [Int.one_mul]
    exact ⟨⟨hq, hp⟩, fun j hj => bitv_pow hy.1 hj⟩
theorem y_X5_readyHouse (w : eW) (hH : HH w) (hz : w 16 9 = 0 ∨ RY w) : ∃ w1, Cal mX5_readyHouse [eR 16] w none w1 ∧ Fr [16, 17, 18] w w1 ∧ (∀ i, i ≠ 9 → w1 16 i = w 16 i) ∧ RY w1 := by
  have hz2 : eI (w 16 9) := by
    rcases hz with h | h
    · omega
    · have := h.1; omega
  rcases hz.symm with hz | hz
  · refine ⟨w, Cal.of (by decide +kernel) (Nat.le_of_ble_eq_true rfl) ?_, Fr.rf, fun _ _ => rfl, hz⟩
    have := hz.1
    apply tX5_readyHouse_0 w hz2
    · intro h; omega
    · intro _; exact ⟨rfl, rfl⟩
  obtain ⟨hB, h3, h4⟩ := id hH
  obtain ⟨⟨b1, b2, b3, b4, b5, b6⟩, b7, b8, b9⟩ := id hB
  -- a column's bits
  have inner : ∀ (w0 : eW), Fr [16, 17, 18] w w0 → ∀ x, 0 ≤ x → x < 14 → ∃ bits, ((0 ≤ bits ∧ bits < 2 ^ 14) ∧ ∀ j, 0 ≤ j → j < 14 → bitv bits j = if j < w 2 1 then bitv (w 3 j) x else 0) ∧ ∀ (r : Option eV) (w9 : eW), Go mX5_readyHouse 73 [(0, eR 16), (1, (0, x + 1))] [] (eU w0 18 x bits) r w9 → Go mX5_readyHouse 86 [(0, eR 16), (1, (0, x)), (2, (0, 0)), (3, (0, 0))] [] w0 r w9 := by
    intro w0 hF x hx1 hx2
    have hB0 : HB w0 := HB_fr hF hB (by decide)
    have e21 : w0 2 1 = w 2 1 := hF.at 2 (by decide) 1
    have er : rowAt w0 = rowAt w := rowAt_fr hF (by decide)
    refine loop_up (P := fun y => ∀ bs, ((0 ≤ bs ∧ bs < 2 ^ 14) ∧ ∀ j, 0 ≤ j → j < 14 → bitv bs j = if j < y then bitv (w 3 j) x else 0) → ∃ bits, ((0 ≤ bits ∧ bits < 2 ^ 14) ∧ ∀ j, 0 ≤ j → j < 14 → bitv bits j = if j < w 2 1 then bitv (w 3 j) x else 0) ∧ ∀ (r : Option eV) (w9 : eW), Go mX5_readyHouse 73 [(0, eR 16), (1, (0, x + 1))] [] (eU w0 18 x bits) r w9 → Go mX5_readyHouse 86 [(0, eR 16), (1, (0, x)), (2, (0, bs)), (3, (0, y))] [] w0 r w9) 0 (w 2 1) ?_ ?_ 0 (by omega) (by omega) 0 ⟨by decide, fun j h1 h2 => by rw [if_neg (by omega)]; unfold bitv; rw [Int.zero_ediv]; rfl⟩
    · intro bs hbs
      refine ⟨bs, hbs, fun r w9 h => ?_⟩
      apply tX5_readyHouse_86 w0 _ _ _ hB0 ⟨hx1, hx2⟩ (by omega) (rowAt_b hB0 _)
      · intro h; omega
      · intro _; exact h
    · intro y hy1 hy2 ih bs hbs
      have rb := rowAt_b hB y
      have re : rowAt w y = w 3 y := by unfold rowAt; rw [if_pos ⟨hy1, hy2⟩]
      have ed : eAnd (rowAt w0 y / 2 ^ x.toNat) 1 = bitv (w 3 y) x := by
        rw [er, eAnd_1 (e_div2 (by omega)), re]; rfl
      obtain ⟨p1, p2⟩ := bit_put (b := bitv (w 3 y) x) (y := y) (bitv_01 _ _) (by omega)
      obtain ⟨bits, i1, i2⟩ := ih (eOr bs (bitv (w 3 y) x * 2 ^ y.toNat)) ⟨eOr_lt 14 (by decide) hbs.1 p1, fun j h1 h2 => by
        rw [bitv_or (by omega) (by omega), hbs.2 j h1 h2, p2 j h1]
        have q := bitv_01 (w 3 y) x
        by_cases hj : j = y
        · subst hj
          rw [if_neg (show ¬ j < j by omega), if_pos rfl, if_pos (show j < j + 1 by omega)]
          rcases q with q | q <;> rw [q] <;> decide
        · rw [if_neg hj]
          have q2 := bitv_01 (w 3 j) x
          by_cases hl : j < y
          · rw [if_pos hl, if_pos (show j < y + 1 by omega)]
            rcases q2 with q2 | q2 <;> rw [q2] <;> decide
          · rw [if_neg hl, if_neg (show ¬ j < y + 1 by omega)]
            decide⟩
      refine ⟨bits, i1, fun r w9 h => ?_⟩
      have := i2 r w9 h
      rw [← ed] at this
      apply tX5_readyHouse_86 w0 _ _ _ hB0 ⟨hx1, hx2⟩ (by omega) (rowAt_b hB0 _)
      · intro _; exact this
      · intro h; omega
  -- all columns
  have cols := loop_up (P := fun x => ∀ w0, Fr [16, 17, 18] w w0 → (∀ i, i ≠ 9 → w0 16 i = w 16 i) → w0 16 9 = 1 → (∀ s, 0 ≤ s → s < 4 → w0 17 s = qC w s) → (∀ i, 0 ≤ i → i < x → (0 ≤ w0 18 i ∧ w0 18 i < 2 ^ 14) ∧ ∀ j, 0 ≤ j → j < 14 → bitv (w0 18 i) j = if j < w 2 1 then bitv (w 3 j) i else 0) → ∃ w1, Go mX5_readyHouse 73 [(0, eR 16), (1, (0, x))] [] w0 none w1 ∧ Fr [16, 17, 18] w w1 ∧ (∀ i, i ≠ 9 → w1 16 i = w 16 i) ∧ RY w1) 0 14 ?_ ?_ 0 (by decide) (by decide)
  · -- the times
    have tms := loop_up (P := fun k => ∀ w0, Fr [16, 17, 18] w w0 → (∀ i, i ≠ 9 → w0 16 i = w 16 i) → w0 16 9 = 1 → (∀ s, 0 ≤ s → s < k → w0 17 s = qC w s) → ∃ w1, Go mX5_readyHouse 15 [(0, eR 16), (1, (0, k))] [] w0 none w1 ∧ Fr [16, 17, 18] w w1 ∧ (∀ i, i ≠ 9 → w1 16 i = w 16 i) ∧ RY w1) 0 4 ?_ ?_ 0 (by decide) (by decide) (eU w 16 9 1) (Fr.put Fr.rf (by decide)) (fun i hi => by rw [eU_get, if_neg hi]) (by rw [eU_get, if_pos rfl]) (fun s g1 g2 => by omega)
    · obtain ⟨w1, g1, g2, g3, g4⟩ := tms
      refine ⟨w1, Cal.of (by decide +kernel) (Nat.le_of_ble_eq_true rfl) ?_, g2, g3, g4⟩
      apply tX5_readyHouse_0 w hz2
      · intro _; exact g1
      · intro h; exact absurd hz h
    · intro w0 hF h16 h9 ht
      obtain ⟨w1, g1, g2, g3, g4⟩ := cols w0 hF h16 h9 ht (fun i q1 q2 => by omega)
      refine ⟨w1, ?_, g2, g3, g4⟩
      have ep : rX0_pace w0 4 = 1 := by unfold rX0_pace; rw [if_neg (by decide), if_neg (by decide)]
      apply tX5_readyHouse_15 w0 4 (by decide) (by rw [ep]; decide)
      all_goals (intros; first | with_reducible exact g1 | (exfalso; omega))
    · intro k hk1 hk2 ih w0 hF h16 h9 ht
      have ep : rX0_pace w0 k = w 4 k := by unfold rX0_pace; rw [if_neg (by omega), if_pos hk2, hF 4 (by decide)]
      have q1 := h3 k hk1 hk2
      have q2 := b8 k hk1 hk2
      obtain ⟨w1, g1, g2, g3, g4⟩ := ih (eU w0 17 k (eQt (rX0_pace w0 k))) (hF.put (by decide)) (fun i hi => by rw [eU_ne (by decide)]; exact h16 i hi) (by rw [eU_ne (by decide)]; exact h9) (fun s s1 s2 => by
        rw [eU_get]
        by_cases hs : s = k
        · rw [if_pos hs, ep, eQt_div q1 q2.2, hs]; rfl
        · rw [if_neg hs]; exact ht s s1 (by omega))
      refine ⟨w1, ?_, g2, g3, g4⟩
      apply tX5_readyHouse_15 w0 k (by omega) (by omega)
      all_goals (intros; first | with_reducible exact g1 | (exfalso; omega))
  · intro w0 hF h16 h9 ht hc
    refine ⟨w0, ?_, hF, h16, h9, ?_, ?_⟩
    · apply tX5_readyHouse_73 w0 14 (by decide)
      all_goals (intros; first | exact ⟨rfl, rfl⟩ | (exfalso; omega))
    · rw [qC_fr hF (by decide)]; exact ht
    · intro x hx1 hx2
      obtain ⟨c1, c2⟩ := hc x hx1 hx2
      refine ⟨c1, fun y => ?_⟩
      show _ ↔ insC w0 x y
      unfold insC
      rw [hF 2 (by decide), hF 3 (by decide)]
      constructor
      · intro hb
        have := c2 y hb.1 hb.2.1
        rw [show bitv (w0 18 x) y = 1 from hb.2.2] at this
        by_cases hy : y < w 2 1
        · rw [if_pos hy] at this
          exact ⟨hx1, (h4 y x hb.1 (by omega) hx1 hx2 this.symm).1, hb.1, hy, this.symm⟩
        · rw [if_neg hy] at this; exact absurd this (by decide)
      · intro ⟨q1, q2, q3, q4, q5⟩
        have := c2 y q3 (by omega)
        rw [if_pos q4, show bitv (w 3 y) x = 1 from q5] at this
        exact ⟨q3, by omega, this⟩
  · intro x hx1 hx2 ih w0 hF h16 h9 ht hc
    obtain ⟨bits, i1, i2⟩ := inner w0 hF x hx1 hx2
    obtain ⟨w1, g1, g2, g3, g4⟩ := ih (eU w0 18 x bits) (hF.put (by decide)) (fun i hi => by rw [eU_ne (by decide)]; exact h16 i hi) (by rw [eU_ne (by decide)]; exact h9) (fun s s1 s2 => by rw [eU_ne (by decide)]; exact ht s s1 s2) (fun i j1 j2 => by
      rw [eU_get]
      by_cases hi : i = x
      · rw [if_pos hi, hi]; exact i1
      · rw [if_neg hi]; exact hc i j1 (by omega))
    refine ⟨w1, ?_, g2, g3, g4⟩
    have g5 := i2 _ _ g1
    apply tX5_readyHouse_73 w0 x (by omega)
    all_goals (intros; first | with_reducible exact g5 | (exfalso; omega))
theorem y_X5_readyRows (w : eW) (px : Int) (hp : 0 ≤ px ∧ px ≤ 56) (hH : HH w) (hY : RY w) : ∃ w1, Cal mX5_readyRows [eR 16, (0, px)] w none w1 ∧ Fr [19] w w1 ∧ RR w1 px ∧ ∀ i, (i < px * 10 ∨ px * 10 + 10 ≤ i) → w1 19 i = w 19 i := by
  obtain ⟨hB, h3, h4⟩ := id hH
  obtain ⟨⟨b1, b2, b3, b4, b5, b6⟩, b7, b8, b9⟩ := id hB
  obtain ⟨y1, y2, y3⟩ := id hY
  have q1 := qC_b hH 1 (by decide) (by decide)
  have q3 := qC_b hH 3 (by decide) (by decide)
  have key := loop_up (P := fun y => ∀ w0, Fr [19] w w0 → (∀ j, 0 ≤ j → j < y → w0 19 (px * 10 + j) = rT w px j) → (∀ i, (i < px * 10 ∨ px * 10 + 10 ≤ i) → w0 19 i = w 19 i) → ∃ w1, Go mX5_readyRows 2 [(0, eR 16), (1, (0, px)), (2, (0, y))] [] w0 none w1 ∧ Fr [19] w w1 ∧ RR w1 px ∧ ∀ i, (i < px * 10 ∨ px * 10 + 10 ≤ i) → w1 19 i = w 19 i) 0 (w 2 1) ?_ ?_ 0 (by omega) (by omega) w Fr.rf (fun j g1 g2 => by omega) (fun _ _ => rfl)
  · obtain ⟨w1, g1, g2, g3⟩ := key
    refine ⟨w1, Cal.of (by decide +kernel) (Nat.le_of_ble_eq_true rfl) ?_, g2, g3⟩
    apply tX5_readyRows_0 w px
    exact g1
  · intro w0 hF hI hO
    have hB0 : HB w0 := HB_fr hF hB (by decide)
    have e21 : w0 2 1 = w 2 1 := hF.at 2 (by decide) 1
    have e17 : w0 17 = w 17 := hF 17 (by decide)
    refine ⟨w0, ?_, hF, fun y h1 h2 => ?_, hO⟩
    · apply tX5_readyRows_2 w0 px _ hB0 hp (by omega) (rowAt_b hB0 _) (by rw [e17, y2 1 (by decide) (by decide)]; omega) (by rw [e17, y2 3 (by decide) (by decide)]; omega)
      all_goals (intros; first | exact ⟨rfl, rfl⟩ | (exfalso; omega))
    · rw [rT_fr hF (by decide)]
      exact hI y h1 (by omega)
  · intro y hy1 hy2 ih w0 hF hI hO
    have hB0 : HB w0 := HB_fr hF hB (by decide)
    have e21 : w0 2 1 = w 2 1 := hF.at 2 (by decide) 1
    have e17 : w0 17 = w 17 := hF 17 (by decide)
    have ev : nT (rowAt w0 y) px (w0 17 1) (w0 17 3) = rT w px y := by
      rw [rowAt_fr hF (by decide), e17, y2 1 (by decide) (by decide), y2 3 (by decide) (by decide)]; rfl
    obtain ⟨w1, g1, g2, g3⟩ := ih (eU w0 19 (px * 10 + y) (nT (rowAt w0 y) px (w0 17 1) (w0 17 3))) (hF.put (by decide)) (fun j j1 j2 => by
      rw [eU_get]
      by_cases hj : px * 10 + j = px * 10 + y
      · rw [if_pos hj, ev, show j = y by omega]
      · rw [if_neg hj]; exact hI j j1 (by omega)) (fun i hi => by
      rw [eU_get, if_neg (by omega)]; exact hO i hi)
    refine ⟨w1, ?_, g2, g3⟩
    apply tX5_readyRows_2 w0 px _ hB0 hp (by omega) (rowAt_b hB0 _) (by rw [e17, y2 1 (by decide) (by decide)]; omega) (by rw [e17, y2 3 (by decide) (by decide)]; omega)
    all_goals (intros; first | with_reducible exact g1 | (exfalso; omega))
/-- the columns of a place are ready -/
def RQ (w : eW) (py : Int) : Prop := ∀ x, 0 ≤ x → x < 14 → w 20 x = nT (w 18 x) py (qC w 2) (qC w 0)
theorem y_X5_readyColumns (w : eW) (py : Int) (hp : 0 ≤ py ∧ py ≤ 40) (hH : HH w) (hY : RY w) : ∃ w1, Cal mX5_readyColumns [eR 16, (0, py)] w none w1 ∧ Fr [20] w w1 ∧ RQ w1 py := by
  obtain ⟨y1, y2, y3⟩ := id hY
  have q1 := qC_b hH 2 (by decide) (by decide)
  have q3 := qC_b hH 0 (by decide) (by decide)
  have key := loop_up (P := fun x => ∀ w0, Fr [20] w w0 → (∀ j, 0 ≤ j → j < x → w0 20 j = nT (w 18 j) py (qC w 2) (qC w 0)) → ∃ w1, Go mX5_readyColumns 2 [(0, eR 16), (1, (0, py)), (2, (0, x))] [] w0 none w1 ∧ Fr [20] w w1 ∧ RQ w1 py) 0 14 ?_ ?_ 0 (by omega) (by omega) w Fr.rf (fun j g1 g2 => by omega)
  · obtain ⟨w1, g1, g2, g3⟩ := key
    refine ⟨w1, Cal.of (by decide +kernel) (Nat.le_of_ble_eq_true rfl) ?_, g2, g3⟩
    apply tX5_readyColumns_0 w py
    exact g1
  · intro w0 hF hI
    have e17 : w0 17 = w 17 := hF 17 (by decide)
    refine ⟨w0, ?_, hF, fun x h1 h2 => ?_⟩
    · apply tX5_readyColumns_2 w0 py 14 (by omega) (by omega) (fun h => absurd h (by decide)) (by rw [e17, y2 2 (by decide) (by decide)]; omega) (by rw [e17, y2 0 (by decide) (by decide)]; omega)
      all_goals (intros; first | exact ⟨rfl, rfl⟩ | (exfalso; omega))
    · rw [qC_fr hF (by decide), hF 18 (by decide)]
      exact hI x h1 h2
  · intro x hx1 hx2 ih w0 hF hI
    have e17 : w0 17 = w 17 := hF 17 (by decide)
    have e18 : w0 18 = w 18 := hF 18 (by decide)
    have hc := (y3 x hx1 hx2).1
    have ev : nT (w0 18 x) py (w0 17 2) (w0 17 0) = nT (w 18 x) py (qC w 2) (qC w 0) := by
      rw [e18, e17, y2 2 (by decide) (by decide), y2 0 (by decide) (by decide)]
    obtain ⟨w1, g1, g2, g3⟩ := ih (eU w0 20 x (nT (w0 18 x) py (w0 17 2) (w0 17 0))) (hF.put (by decide)) (fun j j1 j2 => by
      rw [eU_get]
      by_cases hj : j = x
      · rw [if_pos hj, ev, hj]
      · rw [if_neg hj]; exact hI j j1 (by omega))
    refine ⟨w1, ?_, g2, g3⟩
    apply tX5_readyColumns_2 w0 py x (by omega) (by omega) (fun _ => by rw [e18]; exact hc) (by rw [e17, y2 2 (by decide) (by decide)]; omega) (by rw [e17, y2 0 (by decide) (by decide)]; omega)
    all_goals (intros; first | with_reducible exact g1 | (exfalso; omega))
