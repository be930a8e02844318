/-! acts: what is kept, and what they leave -/
theorem begin_cells (w : eW) : wX7_beginAct w 13 4 = 0 ∧ wX7_beginAct w 16 9 = 0 ∧ wX7_beginAct w 16 10 = 0 ∧ wX7_beginAct w 16 11 = 0 ∧ wX7_beginAct w 24 9 = 0 := by
  unfold wX7_beginAct
  repeat' split
  all_goals simp [eU]
theorem begin_7a {w : eW} (hp : 0 ≤ w 6 1 ∧ w 6 1 < 10) : wX7_beginAct w 6 1 = w 6 1 + 1 ∧ ∀ j, wX7_beginAct w 7 j = if w 6 1 * 14 + 10 ≤ j ∧ j < w 6 1 * 14 + 10 + 4 then w 4 (0 + (j - (w 6 1 * 14 + 10))) else if w 6 1 * 14 ≤ j ∧ j < w 6 1 * 14 + 10 then w 3 (0 + (j - w 6 1 * 14)) else w 7 j := by
  unfold wX7_beginAct
  rw [if_pos hp.2, if_neg (by omega), if_neg (by omega)]
  refine ⟨?_, fun j => ?_⟩
  · simp [eU, eCpy]
  · simp [eU, eCpy]
theorem begin_7b {w : eW} (hp : w 6 1 = 10) : wX7_beginAct w 6 1 = 10 ∧ ∀ j, wX7_beginAct w 7 j = if 136 ≤ j ∧ j < 140 then w 4 (0 + (j - 136)) else if 126 ≤ j ∧ j < 136 then w 3 (0 + (j - 126)) else if 0 ≤ j ∧ j < 126 then w 7 (14 + (j - 0)) else w 7 j := by
  unfold wX7_beginAct
  rw [if_neg (by omega)]
  refine ⟨?_, fun j => ?_⟩
  · simp [eU, eCpy]
  · simp [eU, eCpy]
theorem PK_of {W H : Int} {f g f' g' : Int → Int} {k k' : Int} (hf : ∀ i, 0 ≤ i → i < 14 → f' (k' * 14 + i) = f (k * 14 + i)) (hg : ∀ j, 0 ≤ j → j < 144 → g' (k' * 144 + j) = g (k * 144 + j)) (h : PK W H f g k) : PK W H f' g' k' := by
  obtain ⟨p1, ⟨x, y, q1, q2, q3, q4, q5⟩, p3⟩ := h
  refine ⟨fun y y1 y2 => ⟨?_, fun x x1 x2 => ?_⟩, ⟨x, y, q1, q2, q3, q4, ?_⟩, fun s s1 s2 => ?_⟩
  · rw [hf y y1 (by omega)]; exact (p1 y y1 y2).1
  · rw [hf y y1 (by omega), hg _ (by omega) (by omega)]; exact (p1 y y1 y2).2 x x1 x2
  · rw [hf y q3 (by omega)]; exact q5
  · rw [show k' * 14 + 10 + s = k' * 14 + (10 + s) by omega, hf _ (by omega) (by omega), hg _ (by omega) (by omega), show k * 14 + (10 + s) = k * 14 + 10 + s by omega]
    exact p3 s s1 s2
theorem PK_now {w : eW} (hS : SM w) (hH : HH w) (hne : ∃ x y, insC w x y) {f g : Int → Int} {k : Int} (hf : ∀ y, 0 ≤ y → y < 10 → f (k * 14 + y) = w 3 y) (hv : ∀ s, 0 ≤ s → s < 4 → f (k * 14 + 10 + s) = w 4 s) (hg : ∀ j, 0 ≤ j → j < 144 → g (k * 144 + j) = w 38 j) : PK (w 2 0) (w 2 1) f g k := by
  obtain ⟨⟨b1, b2, b3, b4, b5, b6⟩, b7, b8, b9⟩ := id hH.1
  obtain ⟨x, y, q1, q2, q3, q4, q5⟩ := hne
  refine ⟨fun y y1 y2 => ⟨?_, fun x x1 x2 => ⟨?_, fun z => ?_⟩⟩, ⟨x, y, q1, by omega, q3, by omega, ?_⟩, fun s s1 s2 => ⟨?_, ?_⟩⟩
  · rw [hf y y1 y2]; exact b7 y y1 y2
  · rw [hf y y1 y2, hg _ (by omega) (by omega)]; exact hS.cells x y x1 x2 y1 y2
  · rw [hf y y1 y2] at z; exact hH.2.2 y x y1 y2 x1 x2 z
  · rw [hf y q3 (by omega)]; exact q5
  · rw [hv s s1 s2]; exact sp_of hH s s1 s2
  · rw [hv s s1 s2, hg _ (by omega) (by omega)]; exact hS.speeds s s1 s2
theorem wRem_low {z : eW} (ha : 0 ≤ z 33 27 ∧ z 33 27 ≤ 10) {k j : Int} (hk : 0 ≤ k ∧ k < wRem z 33 27 - 1) (hj : 0 ≤ j ∧ j < 144) : wRem z 39 (k * 144 + j) = z 39 ((if z 33 27 = 10 then k + 1 else k) * 144 + j) := by
  have e1 := wRem_acts ha
  have e2 := wRemA_acts ha
  unfold wRem
  rw [eU_ne (by decide), eSet_at, if_neg (by omega)]
  unfold wRemA
  by_cases c : z 33 27 = 10
  · rw [if_pos c, if_pos c, eSet_at, if_pos (by omega)]
    congr 1
    omega
  · rw [if_neg c, if_neg c]
theorem keep_PK {w z : eW} (hS : SM w) (hH : HH w) (hne : ∃ x y, insC w x y) (hp : PS w) (e38 : z 38 = w 38) (e39 : z 39 = w 39) (e27 : z 33 27 = w 33 27) : wRem z 33 27 = wX7_beginAct w 6 1 ∧ (1 ≤ wX7_beginAct w 6 1 ∧ wX7_beginAct w 6 1 ≤ 10) ∧ ∀ k, 0 ≤ k → k < wX7_beginAct w 6 1 → PK (w 2 0) (w 2 1) (wX7_beginAct w 7) (wRem z 39) k := by
  obtain ⟨p1, p2⟩ := hp
  have ea : z 33 27 = w 6 1 := e27.trans hS.acts
  have hz : 0 ≤ z 33 27 ∧ z 33 27 ≤ 10 := by omega
  have r1 := wRem_acts hz
  have r2 := wRem_past hz
  by_cases c : w 6 1 < 10
  · obtain ⟨c1, c2⟩ := begin_7a ⟨p1.1, c⟩
    have er : wRem z 33 27 = w 6 1 + 1 := by rw [r1, if_neg (by omega)]; omega
    refine ⟨by omega, by omega, fun k k1 k2 => ?_⟩
    by_cases ck : k = w 6 1
    · subst ck
      refine PK_now hS hH hne (fun y y1 y2 => ?_) (fun s s1 s2 => ?_) (fun j j1 j2 => ?_)
      · rw [c2, if_neg (by omega), if_pos (by omega)]; congr 1; omega
      · rw [c2, if_pos (by omega)]; congr 1; omega
      · have q := r2 j ⟨j1, j2⟩
        rw [er, show w 6 1 + 1 - 1 = w 6 1 by omega, e38] at q
        exact q
    · refine PK_of (k := k) (fun i i1 i2 => ?_) (fun j j1 j2 => ?_) (p2 k k1 (by omega))
      · rw [c2, if_neg (by omega), if_neg (by omega)]
      · rw [wRem_low hz ⟨k1, by omega⟩ ⟨j1, j2⟩, if_neg (by omega), e39]
  · have c' : w 6 1 = 10 := by omega
    obtain ⟨c1, c2⟩ := begin_7b c'
    have er : wRem z 33 27 = 10 := by rw [r1, if_pos (by omega)]; omega
    refine ⟨by omega, by omega, fun k k1 k2 => ?_⟩
    by_cases ck : k = 9
    · subst ck
      refine PK_now hS hH hne (fun y y1 y2 => ?_) (fun s s1 s2 => ?_) (fun j j1 j2 => ?_)
      · rw [c2, if_neg (by omega), if_pos (by omega)]; congr 1; omega
      · rw [c2, if_pos (by omega)]; congr 1; omega
      · have q := r2 j ⟨j1, j2⟩
        rw [er, show (10 : Int) - 1 = 9 by decide, e38] at q
        exact q
    · refine PK_of (k := k + 1) (fun i i1 i2 => ?_) (fun j j1 j2 => ?_) (p2 (k + 1) (by omega) (by omega))
      · rw [c2, if_neg (by omega), if_neg (by omega), if_pos (by omega)]; congr 1; omega
      · rw [wRem_low hz ⟨k1, by omega⟩ ⟨j1, j2⟩, if_pos (by omega), e39]
theorem IV_act {w w1 w2 : eW} (hI : IV w) (h28 : w 33 28 = 1) (f : Fr [0, 3, 4, 6, 7, 13, 16, 24] w w1) (f0 : ∀ i, i ≠ 2 → w1 0 i = w 0 i) (f02 : w1 0 2 = 0) (fc : w1 13 4 = 0 ∧ w1 16 9 = 0 ∧ w1 16 10 = 0 ∧ w1 16 11 = 0 ∧ w1 24 9 = 0) (g : Fr [33, 35, 38, 39] w1 w2) (g33 : ∀ i, 3 ≤ i → i ≤ 28 → i ≠ 27 → w2 33 i = w1 33 i) (g1 : w2 33 1 = 0) (g2 : w2 33 2 = -1) (hH : HH w1) (hne : ∃ x y, insC w1 x y) (hc : ∀ x y, 0 ≤ x → x < 14 → 0 ≤ y → y < 10 → w2 38 (14 * y + x) = bitv (w1 3 y) x) (hs : ∀ s, 0 ≤ s → s < 4 → w2 38 (140 + s) = w1 4 s) (ha : w2 33 27 = w1 6 1) (hp : 0 ≤ w1 6 1 ∧ w1 6 1 ≤ 10) (hk : ∀ k, 0 ≤ k → k < w1 6 1 → PK (w 2 0) (w 2 1) (w1 7) (w2 39) k) : IV w2 := by
  obtain ⟨i1, i2, i3, i4, i5, i6, i7, i8⟩ := hI
  have a0 : w2 0 = w1 0 := g 0 (by decide)
  have a2 : w2 2 = w1 2 := g 2 (by decide)
  have c2 : w1 2 = w 2 := f 2 (by decide)
  have a3 : w2 3 = w1 3 := g 3 (by decide)
  have a4 : w2 4 = w1 4 := g 4 (by decide)
  have a5 : w2 5 = w1 5 := g 5 (by decide)
  have c5 : w1 5 = w 5 := f 5 (by decide)
  have a6 : w2 6 = w1 6 := g 6 (by decide)
  have a40 : w2 40 = w 40 := (g 40 (by decide)).trans (f 40 (by decide))
  have h33 : w1 33 = w 33 := f 33 (by decide)
  have hB2 : HB w2 := HB_fr g hH.1 (by decide)
  refine ⟨hB2, ?_, ?_, ?_, ?_, ?_, ?_, ?_⟩
  · obtain ⟨⟨d1, d2, d3, d4, d5, d6, d7, d8, d9, d10⟩, d11, d12, d13⟩ := i2
    refine ⟨?_, fun i j1 j2 => ?_, fun i j1 j2 => ?_, ?_⟩
    · rw [g33 24 (by decide) (by decide) (by decide), g33 25 (by decide) (by decide) (by decide), g33 26 (by decide) (by decide) (by decide), g33 28 (by decide) (by decide) (by decide), ha, h33]
      omega
    · have q := hc (i % 14) (i / 14) (by omega) (by omega) (by omega) (by omega)
      rw [show 14 * (i / 14) + i % 14 = i by omega] at q
      have := bitv_01 (w1 3 (i / 14)) (i % 14)
      omega
    · have q := hs (i - 140) (by omega) (by omega)
      rw [show 140 + (i - 140) = i by omega] at q
      have := hH.1.2.2.1 (i - 140) (by omega) (by omega)
      omega
    · rw [a40]; exact d13
  · refine ⟨?_, ?_, ?_, ?_, ?_, ?_, ?_⟩
    · rw [g33 24 (by decide) (by decide) (by decide), a2, h33, c2]; exact i3.wide
    · rw [g33 25 (by decide) (by decide) (by decide), a2, h33, c2]; exact i3.high
    · rw [g33 26 (by decide) (by decide) (by decide), a2, h33, c2]; exact i3.marks
    · rw [a6]; exact ha
    · rw [a3]; exact hc
    · rw [a4]; exact hs
    · rw [a40, a2, a5, c2, c5]; exact i3.mark
  · rcases i4 with ⟨o1, -⟩ | ⟨o1, o2, o3, oH, omk, -⟩
    · exact absurd (o1.symm.trans h28) (by decide)
    · refine Or.inr ⟨?_, ?_, ?_, HH_fr g hH (by decide), ?_, ?_⟩
      · rw [g33 28 (by decide) (by decide) (by decide), h33]; exact o1
      · rw [a2, c2]; exact o2
      · rw [a2, c2]; exact o3
      · intro k k1 k2
        rw [a2, c2] at k2 ⊢
        rw [a5, c5]
        exact omk k k1 k2
      · obtain ⟨x, y, q⟩ := hne
        exact ⟨x, y, by rw [insC_fr g (by decide)]; exact q⟩
  · unfold TP MO
    rw [g33 4 (by decide) (by decide) (by decide), a0, f0 1 (by decide), h33, g 1 (by decide), f 1 (by decide), g 34 (by decide), f 34 (by decide), g 37 (by decide), f 37 (by decide), a40]
    exact i5
  · unfold TR
    rw [g33 7 (by decide) (by decide) (by decide), g1, g2, a0, f02, f0 3 (by decide), h33]
    exact ⟨rfl, by decide, i6.2.2.1, rfl⟩
  · unfold PS
    rw [a6, a2, c2, g 7 (by decide)]
    exact ⟨hp, hk⟩
  · refine ⟨Or.inl ?_, Or.inl ?_, Or.inl ?_, Or.inl ?_, Or.inl ?_⟩
    · rw [g 13 (by decide)]; exact fc.1
    · rw [g 16 (by decide)]; exact fc.2.1
    · rw [g 16 (by decide)]; exact fc.2.2.1
    · rw [g 16 (by decide)]; exact fc.2.2.2.1
    · rw [g 24 (by decide)]; exact fc.2.2.2.2
