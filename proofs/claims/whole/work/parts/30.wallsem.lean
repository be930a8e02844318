/-! what the built walls mean -/
/-- the wall k of S has the cell x, y on the side s -/
def cov (S : eW) (k s x y : Int) : Prop := S 1 k = s ∧ ((s = 0 ∨ s = 2) → S 3 k = y ∧ S 2 k ≤ x ∧ x < S 2 k + S 4 k) ∧ (¬ (s = 0 ∨ s = 2) → S 2 k = x ∧ S 3 k ≤ y ∧ y < S 3 k + S 4 k)
/-- looked at already, ahead of the place b of a lane -/
def prc (side lane b s x y : Int) : Prop := s < side ∨ (s = side ∧ ((s = 0 ∨ s = 2) → y < lane ∨ (y = lane ∧ x < b)) ∧ (¬ (s = 0 ∨ s = 2) → x < lane ∨ (x = lane ∧ y < b)))
def WJ (g : Int → Int → Int) (S : eW) (side lane b : Int) : Prop := 0 ≤ S 0 0 ∧ ∀ s x y, 0 ≤ s → s < 4 → 0 ≤ x → x < 14 → 0 ≤ y → y < 10 → (S 5 (s * 140 + y * 14 + x) = -2 ∨ (0 ≤ S 5 (s * 140 + y * 14 + x) ∧ S 5 (s * 140 + y * 14 + x) < S 0 0)) ∧ (0 ≤ S 5 (s * 140 + y * 14 + x) ↔ prc side lane b s x y ∧ wlI g s x y) ∧ ∀ k, 0 ≤ k → k < S 0 0 → (cov S k s x y ↔ S 5 (s * 140 + y * 14 + x) = k)
/-- the last wall ends just ahead of the place b of the lane -/
def WK (S : eW) (side lane b : Int) : Prop := 1 ≤ S 0 0 ∧ S 1 (S 0 0 - 1) = side ∧ 1 ≤ S 4 (S 0 0 - 1) ∧ ((side = 0 ∨ side = 2) → S 3 (S 0 0 - 1) = lane ∧ S 2 (S 0 0 - 1) + S 4 (S 0 0 - 1) = b) ∧ (¬ (side = 0 ∨ side = 2) → S 2 (S 0 0 - 1) = lane ∧ S 3 (S 0 0 - 1) + S 4 (S 0 0 - 1) = b)
theorem wLB_1 (S : eW) (side x y i : Int) : wLenS (wBegS S side x y) side x y 1 i = if i = S 0 0 then side else S 1 i := rfl
theorem wLB_2 (S : eW) (side x y i : Int) : wLenS (wBegS S side x y) side x y 2 i = if i = S 0 0 then x else S 2 i := rfl
theorem wLB_3 (S : eW) (side x y i : Int) : wLenS (wBegS S side x y) side x y 3 i = if i = S 0 0 then y else S 3 i := rfl
theorem wLB_4 (S : eW) (side x y i : Int) : wLenS (wBegS S side x y) side x y 4 i = if i = S 0 0 then 1 else S 4 i := by
  unfold wLenS
  rw [eU_ne (by decide), eU_get, wBegS_n, show S 0 0 + 1 - 1 = S 0 0 by omega]
  show (if i = S 0 0 then (if S 0 0 = S 0 0 then 0 else S 4 (S 0 0)) + 1 else (if i = S 0 0 then 0 else S 4 i)) = _
  by_cases h : i = S 0 0
  · rw [if_pos h, if_pos rfl, if_pos h]; rfl
  · rw [if_neg h, if_neg h, if_neg h]
theorem wLB_5 (S : eW) (side x y j : Int) : wLenS (wBegS S side x y) side x y 5 j = if j = side * 140 + y * 14 + x then S 0 0 else S 5 j := by
  unfold wLenS
  rw [eU_get, eU_ne (by decide), wBegS_n, show S 0 0 + 1 - 1 = S 0 0 by omega]
  rfl
theorem wL_4 (S : eW) (side x y i : Int) : wLenS S side x y 4 i = if i = S 0 0 - 1 then S 4 (S 0 0 - 1) + 1 else S 4 i := rfl
theorem wL_5 (S : eW) (side x y j : Int) : wLenS S side x y 5 j = if j = side * 140 + y * 14 + x then S 0 0 - 1 else S 5 j := rfl
theorem prc_lv {side lane b x y : Int} (hl : side = 0 ∨ side = 2) : prc side lane b side x y ↔ (y < lane ∨ (y = lane ∧ x < b)) := by
  unfold prc
  constructor
  · rintro (h | ⟨_, h2, _⟩)
    · exact absurd h (by omega)
    · exact h2 hl
  · intro h; exact Or.inr ⟨rfl, fun _ => h, fun z => absurd hl z⟩
theorem prc_vt {side lane b x y : Int} (hl : ¬ (side = 0 ∨ side = 2)) : prc side lane b side x y ↔ (x < lane ∨ (x = lane ∧ y < b)) := by
  unfold prc
  constructor
  · rintro (h | ⟨_, _, h3⟩)
    · exact absurd h (by omega)
    · exact h3 hl
  · intro h; exact Or.inr ⟨rfl, fun z => absurd z hl, fun _ => h⟩
theorem prc_ne {side lane b s x y : Int} (hs : s ≠ side) : prc side lane b s x y ↔ s < side := by
  unfold prc
  constructor
  · rintro (h | ⟨h, _⟩)
    · exact h
    · exact absurd h hs
  · intro h; exact Or.inl h
theorem prc_next {side lane b s x y : Int} (h : ¬ (s = side ∧ x = pX side lane b ∧ y = pY side lane b)) : prc side lane (b + 1) s x y ↔ prc side lane b s x y := by
  unfold pX pY at h
  by_cases hs : s = side
  · subst hs
    by_cases hl : s = 0 ∨ s = 2
    · rw [if_pos hl, if_pos hl] at h
      rw [prc_lv hl, prc_lv hl]
      omega
    · rw [if_neg hl, if_neg hl] at h
      rw [prc_vt hl, prc_vt hl]
      omega
  · rw [prc_ne hs, prc_ne hs]
theorem prc_here (side lane b : Int) : prc side lane (b + 1) side (pX side lane b) (pY side lane b) ∧ ¬ prc side lane b side (pX side lane b) (pY side lane b) := by
  unfold pX pY
  by_cases hl : side = 0 ∨ side = 2
  · rw [if_pos hl, if_pos hl, prc_lv hl, prc_lv hl]
    omega
  · rw [if_neg hl, if_neg hl, prc_vt hl, prc_vt hl]
    omega
theorem idx_inj {s x y s0 x0 y0 : Int} (h1 : 0 ≤ x) (h2 : x < 14) (h3 : 0 ≤ y) (h4 : y < 10) (g1 : 0 ≤ x0) (g2 : x0 < 14) (g3 : 0 ≤ y0) (g4 : y0 < 10) (e : s * 140 + y * 14 + x = s0 * 140 + y0 * 14 + x0) : s = s0 ∧ x = x0 ∧ y = y0 := by omega
theorem WJ_skip {g : Int → Int → Int} {S : eW} {side lane b : Int} (h : WJ g S side lane b) (hn : ¬ wlI g side (pX side lane b) (pY side lane b)) : WJ g S side lane (b + 1) := by
  refine ⟨h.1, fun s x y a1 a2 a3 a4 a5 a6 => ?_⟩
  obtain ⟨p1, p2, p3⟩ := h.2 s x y a1 a2 a3 a4 a5 a6
  refine ⟨p1, p2.trans ?_, p3⟩
  by_cases hc : s = side ∧ x = pX side lane b ∧ y = pY side lane b
  · obtain ⟨rfl, rfl, rfl⟩ := hc
    exact ⟨fun q => absurd q.2 hn, fun q => absurd q.2 hn⟩
  · rw [prc_next hc]
theorem WJ_beg {g : Int → Int → Int} {S : eW} {side lane b : Int} (hs : 0 ≤ side ∧ side < 4) (hx : 0 ≤ pX side lane b ∧ pX side lane b < 14) (hy : 0 ≤ pY side lane b ∧ pY side lane b < 10) (h : WJ g S side lane b) (hw : wlI g side (pX side lane b) (pY side lane b)) :
    WJ g (wLenS (wBegS S side (pX side lane b) (pY side lane b)) side (pX side lane b) (pY side lane b)) side lane (b + 1) ∧ WK (wLenS (wBegS S side (pX side lane b) (pY side lane b)) side (pX side lane b) (pY side lane b)) side lane (b + 1) := by
  have hc0 := h.1
  have hn : wLenS (wBegS S side (pX side lane b) (pY side lane b)) side (pX side lane b) (pY side lane b) 0 0 = S 0 0 + 1 := by rw [wLenS_n, wBegS_n]
  have hcov : ∀ k s x y, k < S 0 0 → (cov (wLenS (wBegS S side (pX side lane b) (pY side lane b)) side (pX side lane b) (pY side lane b)) k s x y ↔ cov S k s x y) := by
    intro k s x y hk
    unfold cov
    rw [wLB_1, wLB_2, wLB_3, wLB_4, if_neg (by omega), if_neg (by omega), if_neg (by omega), if_neg (by omega)]
  refine ⟨⟨by omega, fun s x y a1 a2 a3 a4 a5 a6 => ?_⟩, ?_⟩
  · obtain ⟨p1, p2, p3⟩ := h.2 s x y a1 a2 a3 a4 a5 a6
    rw [hn, wLB_5]
    by_cases hj : s * 140 + y * 14 + x = side * 140 + pY side lane b * 14 + pX side lane b
    · obtain ⟨rfl, rfl, rfl⟩ := idx_inj a3 a4 a5 a6 hx.1 hx.2 hy.1 hy.2 hj
      rw [if_pos rfl]
      obtain ⟨q1, q2⟩ := prc_here s lane b
      have hneg : ¬ 0 ≤ S 5 (s * 140 + pY s lane b * 14 + pX s lane b) := fun z => q2 (p2.mp z).1
      refine ⟨Or.inr ⟨by omega, by omega⟩, ⟨fun _ => ⟨q1, hw⟩, fun _ => by omega⟩, fun k k1 k2 => ?_⟩
      by_cases hk : k = S 0 0
      · subst hk
        refine ⟨fun _ => rfl, fun _ => ?_⟩
        unfold cov
        rw [wLB_1, wLB_2, wLB_3, wLB_4, if_pos rfl, if_pos rfl, if_pos rfl, if_pos rfl]
        exact ⟨rfl, fun _ => by omega, fun _ => by omega⟩
      · rw [hcov k _ _ _ (by omega), p3 k k1 (by omega)]
        constructor
        · intro z; exact absurd z (by omega)
        · intro z; exact absurd z.symm hk
    · have hne : ¬ (s = side ∧ x = pX side lane b ∧ y = pY side lane b) := fun z => hj (by rw [z.1, z.2.1, z.2.2])
      rw [if_neg hj]
      refine ⟨by omega, p2.trans (by rw [prc_next hne]), fun k k1 k2 => ?_⟩
      by_cases hk : k = S 0 0
      · subst hk
        constructor
        · intro z
          unfold cov at z
          rw [wLB_1, wLB_2, wLB_3, wLB_4, if_pos rfl, if_pos rfl, if_pos rfl, if_pos rfl] at z
          exfalso
          apply hne
          obtain ⟨z1, z2, z3⟩ := z
          by_cases hl : s = 0 ∨ s = 2
          · have := z2 hl; exact ⟨z1.symm, by omega, by omega⟩
          · have := z3 hl; exact ⟨z1.symm, by omega, by omega⟩
        · intro z; exfalso; omega
      · rw [hcov k _ _ _ (by omega)]
        exact p3 k k1 (by omega)
  · unfold WK
    rw [hn, show S 0 0 + 1 - 1 = S 0 0 by omega, wLB_1, wLB_2, wLB_3, wLB_4, if_pos rfl, if_pos rfl, if_pos rfl, if_pos rfl]
    refine ⟨by omega, rfl, by omega, fun hl => ?_, fun hl => ?_⟩
    · unfold pX pY; rw [if_pos hl, if_pos hl]; exact ⟨rfl, rfl⟩
    · unfold pX pY; rw [if_neg hl, if_neg hl]; exact ⟨rfl, rfl⟩
theorem WJ_len {g : Int → Int → Int} {S : eW} {side lane b : Int} (hs : 0 ≤ side ∧ side < 4) (hx : 0 ≤ pX side lane b ∧ pX side lane b < 14) (hy : 0 ≤ pY side lane b ∧ pY side lane b < 10) (h : WJ g S side lane b) (hk0 : WK S side lane b) (hw : wlI g side (pX side lane b) (pY side lane b)) :
    WJ g (wLenS S side (pX side lane b) (pY side lane b)) side lane (b + 1) ∧ WK (wLenS S side (pX side lane b) (pY side lane b)) side lane (b + 1) := by
  have hc0 := h.1
  obtain ⟨k1, k2, k3, k4, k5⟩ := hk0
  have hn : wLenS S side (pX side lane b) (pY side lane b) 0 0 = S 0 0 := wLenS_n _ _ _ _
  have e1 : ∀ i, wLenS S side (pX side lane b) (pY side lane b) 1 i = S 1 i := fun _ => rfl
  have e2 : ∀ i, wLenS S side (pX side lane b) (pY side lane b) 2 i = S 2 i := fun _ => rfl
  have e3 : ∀ i, wLenS S side (pX side lane b) (pY side lane b) 3 i = S 3 i := fun _ => rfl
  have hcov : ∀ k s x y, k ≠ S 0 0 - 1 → (cov (wLenS S side (pX side lane b) (pY side lane b)) k s x y ↔ cov S k s x y) := by
    intro k s x y hk
    unfold cov
    rw [e1, e2, e3, wL_4, if_neg hk]
  have hcl : ∀ s x y, cov (wLenS S side (pX side lane b) (pY side lane b)) (S 0 0 - 1) s x y ↔ (cov S (S 0 0 - 1) s x y ∨ (s = side ∧ x = pX side lane b ∧ y = pY side lane b)) := by
    intro s x y
    unfold cov
    rw [e1, e2, e3, wL_4, if_pos rfl, k2]
    unfold pX pY
    by_cases hl : side = 0 ∨ side = 2
    · have z := k4 hl
      rw [if_pos hl, if_pos hl]
      constructor
      · rintro ⟨q1, q2, q3⟩
        subst q1
        have := q2 hl
        by_cases hb : x = b
        · exact Or.inr ⟨rfl, hb, by omega⟩
        · exact Or.inl ⟨rfl, fun _ => by omega, fun z => absurd hl z⟩
      · rintro (⟨q1, q2, q3⟩ | ⟨q1, q2, q3⟩)
        · subst q1
          have := q2 hl
          exact ⟨rfl, fun _ => by omega, fun z => absurd hl z⟩
        · subst q1
          exact ⟨rfl, fun _ => by omega, fun z => absurd hl z⟩
    · have z := k5 hl
      rw [if_neg hl, if_neg hl]
      constructor
      · rintro ⟨q1, q2, q3⟩
        subst q1
        have := q3 hl
        by_cases hb : y = b
        · exact Or.inr ⟨rfl, by omega, hb⟩
        · exact Or.inl ⟨rfl, fun z => absurd z hl, fun _ => by omega⟩
      · rintro (⟨q1, q2, q3⟩ | ⟨q1, q2, q3⟩)
        · subst q1
          have := q3 hl
          exact ⟨rfl, fun z => absurd z hl, fun _ => by omega⟩
        · subst q1
          exact ⟨rfl, fun z => absurd z hl, fun _ => by omega⟩
  refine ⟨⟨by omega, fun s x y a1 a2 a3 a4 a5 a6 => ?_⟩, ?_⟩
  · obtain ⟨p1, p2, p3⟩ := h.2 s x y a1 a2 a3 a4 a5 a6
    rw [hn, wL_5]
    by_cases hj : s * 140 + y * 14 + x = side * 140 + pY side lane b * 14 + pX side lane b
    · obtain ⟨rfl, rfl, rfl⟩ := idx_inj a3 a4 a5 a6 hx.1 hx.2 hy.1 hy.2 hj
      rw [if_pos rfl]
      obtain ⟨q1, q2⟩ := prc_here s lane b
      have hneg : ¬ 0 ≤ S 5 (s * 140 + pY s lane b * 14 + pX s lane b) := fun z => q2 (p2.mp z).1
      refine ⟨Or.inr ⟨by omega, by omega⟩, ⟨fun _ => ⟨q1, hw⟩, fun _ => by omega⟩, fun k g1 g2 => ?_⟩
      by_cases hk : k = S 0 0 - 1
      · subst hk
        exact ⟨fun _ => rfl, fun _ => (hcl _ _ _).mpr (Or.inr ⟨rfl, rfl, rfl⟩)⟩
      · rw [hcov k _ _ _ hk, p3 k g1 g2]
        constructor
        · intro z; exact absurd z (by omega)
        · intro z; exact absurd z.symm hk
    · have hne : ¬ (s = side ∧ x = pX side lane b ∧ y = pY side lane b) := fun z => hj (by rw [z.1, z.2.1, z.2.2])
      rw [if_neg hj]
      refine ⟨p1, p2.trans (by rw [prc_next hne]), fun k g1 g2 => ?_⟩
      by_cases hk : k = S 0 0 - 1
      · subst hk
        rw [hcl]
        constructor
        · rintro (z | z)
          · exact (p3 _ g1 g2).mp z
          · exact absurd z hne
        · intro z; exact Or.inl ((p3 _ g1 g2).mpr z)
      · rw [hcov k _ _ _ hk]
        exact p3 k g1 g2
  · unfold WK
    rw [hn, e1, e2, e3, wL_4, if_pos rfl]
    exact ⟨k1, k2, by omega, fun hl => by have := k4 hl; omega, fun hl => by have := k5 hl; omega⟩
