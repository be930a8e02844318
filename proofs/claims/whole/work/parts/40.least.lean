theorem rcQ_n1 (q : Int → Int) (px py x y : Int) : rcQ q px py x y = max (n1 px (q 1) (q 3) x) (n1 py (q 2) (q 0) y) := by
  unfold rcQ n1 tmQ
  have f0 : farQ px py x y 0 = py - 4 * (y + 1) := rfl
  have f1 : farQ px py x y 1 = 4 * x - px := rfl
  have f2 : farQ px py x y 2 = 4 * y - py := rfl
  have f3 : farQ px py x y 3 = px - 4 * (x + 1) := rfl
  rw [f0, f1, f2, f3]
  generalize (if 0 < py - 4 * (y + 1) then (py - 4 * (y + 1)) * q 0 else 0) = a
  generalize (if 0 < 4 * x - px then (4 * x - px) * q 1 else 0) = b
  generalize (if 0 < 4 * y - py then (4 * y - py) * q 2 else 0) = c
  generalize (if 0 < px - 4 * (x + 1) then (px - 4 * (x + 1)) * q 3 else 0) = d
  omega
/-- the reach by a row -/
noncomputable def rv (w : eW) (px py y : Int) : Int := max (n1 py (qC w 2) (qC w 0) y) (rT w px y)
def isB (w : eW) (px py lo hi b : Int) : Prop := (∃ y, lo ≤ y ∧ y ≤ hi ∧ rv w px py y = b) ∧ ∀ y, lo ≤ y → y ≤ hi → b ≤ rv w px py y
theorem isB_up {w : eW} {px py lo hi b : Int} (h : isB w px py lo hi b) (hl : lo ≤ hi) : isB w px py (lo - 1) hi (min b (rv w px py (lo - 1))) := by
  obtain ⟨⟨y, h1, h2, h3⟩, h4⟩ := h
  refine ⟨?_, fun y' g1 g2 => ?_⟩
  · rcases Int.le_total b (rv w px py (lo - 1)) with h | h
    · exact ⟨y, by omega, h2, by omega⟩
    · exact ⟨lo - 1, by omega, by omega, by omega⟩
  · by_cases hy : y' = lo - 1
    · rw [hy]; omega
    · have := h4 y' (by omega) g2; omega
theorem isB_dn {w : eW} {px py lo hi b : Int} (h : isB w px py lo hi b) (hl : lo ≤ hi) : isB w px py lo (hi + 1) (min b (rv w px py (hi + 1))) := by
  obtain ⟨⟨y, h1, h2, h3⟩, h4⟩ := h
  refine ⟨?_, fun y' g1 g2 => ?_⟩
  · rcases Int.le_total b (rv w px py (hi + 1)) with h | h
    · exact ⟨y, by omega, by omega, by omega⟩
    · exact ⟨hi + 1, by omega, by omega, by omega⟩
  · by_cases hy : y' = hi + 1
    · rw [hy]; omega
    · have := h4 y' g1 (by omega); omega
theorem isB_far {w : eW} {px py lo hi lo' hi' b : Int} (h : isB w px py lo hi b) (h1 : lo' ≤ lo) (h2 : hi ≤ hi') (h3 : ∀ y, lo' ≤ y → y ≤ hi' → (y < lo ∨ hi < y) → b ≤ rv w px py y) : isB w px py lo' hi' b := by
  obtain ⟨⟨y, g1, g2, g3⟩, g4⟩ := h
  refine ⟨⟨y, by omega, by omega, g3⟩, fun y' k1 k2 => ?_⟩
  by_cases hy : lo ≤ y' ∧ y' ≤ hi
  · exact g4 y' hy.1 hy.2
  · exact h3 y' k1 k2 (by omega)
theorem isB_ht {w : eW} (hH : HH w) {px py b : Int} (hp : 0 ≤ px ∧ px ≤ 4 * w 2 0 ∧ 0 ≤ py ∧ py ≤ 4 * w 2 1) (h : isB w px py (-1) (w 2 1) b) : isHt (gC w) (w 2 0) (w 2 1) (qC w) px py b := by
  obtain ⟨⟨b1, b2, b3, b4, b5, b6⟩, b7, b8, b9⟩ := id hH.1
  have q1 := qC_b hH 1 (by decide) (by decide)
  have q3 := qC_b hH 3 (by decide) (by decide)
  have hN : ∀ y, isN (rowAt w y) px (qC w 1) (qC w 3) (rT w px y) := fun y => nT_isN (rowAt_b hH.1 y) (by omega) (by omega) (by omega)
  have hg : ∀ x y, gC w x y = 1 ↔ hb14 (rowAt w y) x := fun x y => by rw [hb_ins hH]; exact gC_1
  obtain ⟨⟨y, h1, h2, h3⟩, h4⟩ := h
  refine ⟨?_, fun x y g1 g2 g3 g4 g5 => ?_⟩
  · obtain ⟨⟨i, i1, i2, i3, i4⟩, i5⟩ := hN y
    by_cases hi : i ≤ w 2 0
    · refine ⟨i, y, i1, hi, h1, h2, fun z => i3 ((hg _ _).mp z), ?_⟩
      rw [rcQ_n1, i4, ← h3]
      unfold rv
      omega
    · have hw : ¬ hb14 (rowAt w y) (w 2 0) := fun z => by have := ((hb_ins hH _ _).mp z).2.1; omega
      have e1 := i5 _ hw
      have e2 : n1 px (qC w 1) (qC w 3) (w 2 0) ≤ n1 px (qC w 1) (qC w 3) i := by
        rw [n1_up (i := i) (by omega) (by omega)]
        by_cases he : px < 4 * w 2 0
        · rw [n1_up (by omega) he]
          exact Int.mul_le_mul_of_nonneg_right (by omega) (by omega)
        · rw [n1_zero (by omega) (by omega)]
          exact Int.mul_nonneg (by omega) (by omega)
      refine ⟨w 2 0, y, by omega, by omega, h1, h2, fun z => hw ((hg _ _).mp z), ?_⟩
      rw [rcQ_n1, show n1 px (qC w 1) (qC w 3) (w 2 0) = rT w px y by omega, ← h3]
      unfold rv
      omega
  · have := (hN y).2 x (fun z => g5 ((hg _ _).mpr z))
    have := h4 y g3 g4
    rw [rcQ_n1]
    unfold rv at this
    omega
theorem y_X5_leastReach (w : eW) (px py : Int) (hH : HH w) (hY : RY w) (hR : RR w px) (hp : 0 ≤ px ∧ px ≤ 4 * w 2 0 ∧ 0 ≤ py ∧ py ≤ 4 * w 2 1) : ∃ h, isHt (gC w) (w 2 0) (w 2 1) (qC w) px py h ∧ (0 ≤ h ∧ h ≤ 200000) ∧ Cal mX5_leastReach [eR 16, (0, px), (0, py)] w (some (0, h)) w := by
  obtain ⟨⟨b1, b2, b3, b4, b5, b6⟩, b7, b8, b9⟩ := id hH.1
  obtain ⟨y1, y2, y3⟩ := id hY
  have q2 := qC_b hH 2 (by decide) (by decide)
  have q0 := qC_b hH 0 (by decide) (by decide)
  have e170 : w 17 0 = qC w 0 := y2 0 (by decide) (by decide)
  have e172 : w 17 2 = qC w 2 := y2 2 (by decide) (by decide)
  have hpx : 0 ≤ px ∧ px ≤ 56 ∧ 0 ≤ py ∧ py ≤ 40 := by omega
  have rvb : ∀ y, -1 ≤ y → y ≤ 14 → 0 ≤ rv w px py y ∧ rv w px py y ≤ 200000 := fun y h1 h2 => by
    have g1 := rT_b hH (px := px) (by omega) y
    have g2 := n1_le (place := py) (ahead := qC w 2) (behind := qC w 0) (i := y) (by omega) (by omega) (by omega) (by omega)
    unfold rv
    omega
  have isb : ∀ lo hi b, -1 ≤ lo → hi ≤ 14 → isB w px py lo hi b → 0 ≤ b ∧ b ≤ 200000 := fun lo hi b h1 h2 h => by
    obtain ⟨⟨y, g1, g2, g3⟩, g4⟩ := h
    rw [← g3]
    exact rvb y (by omega) (by omega)
  -- towards the south
  have south : ∀ s b, 0 ≤ s → s ≤ w 2 1 → py < 4 * (s + 1) → isB w px py (-1) s b → ∃ h, isB w px py (-1) (w 2 1) h ∧ Go mX5_leastReach 105 [(0, eR 16), (1, (0, px)), (2, (0, py)), (5, (0, b)), (6, (0, s + 1))] [] w (some (0, h)) w := by
    intro s b hs1 hs2 hs3 hb
    refine loop_up (P := fun y => ∀ b, isB w px py (-1) (y - 1) b → ∃ h, isB w px py (-1) (w 2 1) h ∧ Go mX5_leastReach 105 [(0, eR 16), (1, (0, px)), (2, (0, py)), (5, (0, b)), (6, (0, y))] [] w (some (0, h)) w) (s + 1) (w 2 1 + 1) ?_ ?_ (s + 1) (by omega) (by omega) b (by rw [show s + 1 - 1 = s by omega]; exact hb)
    · intro b hb
      rw [show w 2 1 + 1 - 1 = w 2 1 by omega] at hb
      have bb := isb _ _ _ (by omega) (by omega) hb
      refine ⟨b, hb, ?_⟩
      apply tX5_leastReach_105 w px py b _ hH hR hpx (by omega) (by omega) (e_prod (by omega) (by omega))
      all_goals (intros; first | exact ⟨rfl, rfl⟩ | (exfalso; omega))
    · intro y hy1 hy2 ih b hb
      have bb := isb _ _ _ (by omega) (by omega) hb
      have en : n1 py (qC w 2) (qC w 0) y = (4 * y - py) * w 17 2 := by rw [n1_up (by omega) (by omega), e172]
      by_cases ht : (4 * y - py) * w 17 2 < b
      · have hb2 := isB_dn hb (by omega)
        rw [show y - 1 + 1 = y by omega] at hb2
        obtain ⟨h, i1, i2⟩ := ih _ (by rw [show y + 1 - 1 = y by omega]; exact hb2)
        refine ⟨h, i1, ?_⟩
        unfold rv at i2
        rw [en] at i2
        apply tX5_leastReach_105 w px py b _ hH hR hpx (by omega) (by omega) (e_prod (by omega) (by omega))
        all_goals (intros; first | with_reducible exact i2 | contradiction | (exfalso; omega))
      · refine ⟨b, isB_far hb (by omega) (by omega) (fun y' g1 g2 g3 => ?_), ?_⟩
        · have e2 : n1 py (qC w 2) (qC w 0) y' = (4 * y' - py) * w 17 2 := by rw [n1_up (by omega) (by omega), e172]
          have e3 : (4 * y - py) * w 17 2 ≤ (4 * y' - py) * w 17 2 := Int.mul_le_mul_of_nonneg_right (by omega) (by omega)
          unfold rv
          omega
        · apply tX5_leastReach_105 w px py b _ hH hR hpx (by omega) (by omega) (e_prod (by omega) (by omega))
          all_goals (intros; first | exact ⟨rfl, rfl⟩ | contradiction | (exfalso; omega))
  -- towards the north
  have north : ∀ n s b, -1 ≤ n → n ≤ s → 0 ≤ s → s ≤ w 2 1 → 4 * n < py ∨ n = -1 → py < 4 * (s + 1) → isB w px py n s b → ∃ h, isB w px py (-1) (w 2 1) h ∧ Go mX5_leastReach 43 [(0, eR 16), (1, (0, px)), (2, (0, py)), (3, (0, s)), (5, (0, b)), (6, (0, n - 1))] [] w (some (0, h)) w := by
    intro n s b hn1 hn2 hs1 hs2 hn3 hs3 hb
    have key := loop_up (P := fun k => ∀ b, isB w px py (n - k) s b → ∃ h, isB w px py (-1) (w 2 1) h ∧ Go mX5_leastReach 43 [(0, eR 16), (1, (0, px)), (2, (0, py)), (3, (0, s)), (5, (0, b)), (6, (0, n - 1 - k))] [] w (some (0, h)) w) 0 (n + 1) ?_ ?_ 0 (by omega) (by omega) b (by rw [show n - 0 = n by omega]; exact hb)
    · obtain ⟨h, h1, h2⟩ := key
      rw [show n - 1 - 0 = n - 1 by omega] at h2
      exact ⟨h, h1, h2⟩
    · intro b hb
      rw [show n - (n + 1) = -1 by omega] at hb
      have bb := isb _ _ _ (by omega) (by omega) hb
      obtain ⟨h, h1, h2⟩ := south s b hs1 hs2 hs3 hb
      refine ⟨h, h1, ?_⟩
      apply tX5_leastReach_43 w px py s b _ hH hR hpx (by omega) (by omega) (e_prod (by omega) (by omega))
      all_goals (intros; first | with_reducible exact h2 | (exfalso; omega))
    · intro k hk1 hk2 ih b hb
      have bb := isb _ _ _ (by omega) (by omega) hb
      have en : n1 py (qC w 2) (qC w 0) (n - 1 - k) = (py - (4 * ((n - 1 - k) + 1))) * w 17 0 := by rw [n1_down (by omega) (by omega), e170]
      by_cases ht : (py - (4 * ((n - 1 - k) + 1))) * w 17 0 < b
      · have hb2 := isB_up hb (by omega)
        rw [show n - k - 1 = n - 1 - k by omega] at hb2
        obtain ⟨h, i1, i2⟩ := ih _ (by rw [show n - (k + 1) = n - 1 - k by omega]; exact hb2)
        refine ⟨h, i1, ?_⟩
        unfold rv at i2
        rw [en, show n - 1 - (k + 1) = n - 1 - k + -1 by omega] at i2
        apply tX5_leastReach_43 w px py s b _ hH hR hpx (by omega) (by omega) (e_prod (by omega) (by omega))
        all_goals (intros; first | with_reducible exact i2 | contradiction | (exfalso; omega))
      · obtain ⟨h, h1, h2⟩ := south s b hs1 hs2 hs3 (isB_far hb (by omega) (by omega) (fun y' g1 g2 g3 => by
          have e2 : n1 py (qC w 2) (qC w 0) y' = (py - 4 * (y' + 1)) * w 17 0 := by rw [n1_down (by omega) (by omega), e170]
          have e3 : (py - (4 * ((n - 1 - k) + 1))) * w 17 0 ≤ (py - 4 * (y' + 1)) * w 17 0 := Int.mul_le_mul_of_nonneg_right (by omega) (by omega)
          unfold rv
          omega))
        refine ⟨h, h1, ?_⟩
        apply tX5_leastReach_43 w px py s b _ hH hR hpx (by omega) (by omega) (e_prod (by omega) (by omega))
        all_goals (intros; first | with_reducible exact h2 | contradiction | (exfalso; omega))
  have rv0 : ∀ y, 4 * y ≤ py → py ≤ 4 * (y + 1) → rv w px py y = rT w px y := fun y h1 h2 => by
    have := rT_b hH (px := px) (by omega) y
    unfold rv
    rw [n1_zero h1 h2]
    omega
  by_cases hm : py % 4 = 0
  · have r1 := rv0 (py / 4 - 1) (by omega) (by omega)
    have r2 := rv0 (py / 4) (by omega) (by omega)
    obtain ⟨h, h1, h2⟩ := north (py / 4 - 1) (py / 4) (min (rT w px ((py / 4) - 1)) (rT w px (py / 4))) (by omega) (by omega) (by omega) (by omega) (by omega) (by omega) (by
      have hb := isB_up (w := w) (px := px) (py := py) (lo := py / 4) (hi := py / 4) (b := rT w px (py / 4)) ⟨⟨py / 4, by omega, by omega, r2⟩, fun y g1 g2 => by rw [show y = py / 4 by omega, r2]; omega⟩ (by omega)
      rw [r1, Int.min_comm] at hb
      exact hb)
    have bb := isb _ _ _ (by omega) (by omega) h1
    refine ⟨h, isB_ht hH hp h1, bb, Cal.of (by decide +kernel) (Nat.le_of_ble_eq_true rfl) ?_⟩
    apply tX5_leastReach_0 w px py hH hR hpx
    · intro _; exact h2
    · intro z; exact absurd hm z
  · have r2 := rv0 (py / 4) (by omega) (by omega)
    obtain ⟨h, h1, h2⟩ := north (py / 4) (py / 4) (min (rT w px (py / 4)) (rT w px (py / 4))) (by omega) (by omega) (by omega) (by omega) (by omega) (by omega) (by
      rw [show min (rT w px (py / 4)) (rT w px (py / 4)) = rT w px (py / 4) by omega]
      exact ⟨⟨py / 4, by omega, by omega, r2⟩, fun y g1 g2 => by rw [show y = py / 4 by omega, r2]; omega⟩)
    have bb := isb _ _ _ (by omega) (by omega) h1
    refine ⟨h, isB_ht hH hp h1, bb, Cal.of (by decide +kernel) (Nat.le_of_ble_eq_true rfl) ?_⟩
    apply tX5_leastReach_0 w px py hH hR hpx
    · intro z; exact absurd z hm
    · intro _; exact h2
