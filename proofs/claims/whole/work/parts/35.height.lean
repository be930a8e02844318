/-- the least reach to the cells looked at, ahead of y, x; -1: none of them isn't inside -/
def hLs (g : Int → Int → Int) (W : Int) (q : Int → Int) (px py y x least : Int) : Prop :=
  (least = -1 ∧ ∀ x' y', -1 ≤ x' → x' ≤ W → -1 ≤ y' → (y' < y ∨ (y' = y ∧ x' < x)) → g x' y' = 1) ∨
  (0 ≤ least ∧ (∃ x' y', -1 ≤ x' ∧ x' ≤ W ∧ -1 ≤ y' ∧ (y' < y ∨ (y' = y ∧ x' < x)) ∧ ¬ g x' y' = 1 ∧ rcQ q px py x' y' = least) ∧ ∀ x' y', -1 ≤ x' → x' ≤ W → -1 ≤ y' → (y' < y ∨ (y' = y ∧ x' < x)) → ¬ g x' y' = 1 → least ≤ rcQ q px py x' y')
theorem hLs_in {g : Int → Int → Int} {W : Int} {q : Int → Int} {px py y x least : Int} (h : hLs g W q px py y x least) (hi : g x y = 1) : hLs g W q px py y (x + 1) least := by
  rcases h with ⟨h1, h2⟩ | ⟨h1, ⟨x', y', a1, a2, a3, a4, a5, a6⟩, h3⟩
  · refine Or.inl ⟨h1, fun x' y' a1 a2 a3 a4 => ?_⟩
    by_cases hc : x' = x ∧ y' = y
    · rw [hc.1, hc.2]; exact hi
    · exact h2 x' y' a1 a2 a3 (by omega)
  · refine Or.inr ⟨h1, ⟨x', y', a1, a2, a3, by omega, a5, a6⟩, fun x2 y2 b1 b2 b3 b4 b5 => ?_⟩
    by_cases hc : x2 = x ∧ y2 = y
    · rw [hc.1, hc.2] at b5; exact absurd hi b5
    · exact h3 x2 y2 b1 b2 b3 (by omega) b5
theorem hLs_out {g : Int → Int → Int} {W : Int} {q : Int → Int} {px py y x least : Int} (hx : -1 ≤ x ∧ x ≤ W) (hy : -1 ≤ y) (h : hLs g W q px py y x least) (hi : ¬ g x y = 1) (hr : 0 ≤ rcQ q px py x y) : hLs g W q px py y (x + 1) (if least = -1 ∨ rcQ q px py x y < least then rcQ q px py x y else least) := by
  rcases h with ⟨h1, h2⟩ | ⟨h1, ⟨x', y', a1, a2, a3, a4, a5, a6⟩, h3⟩
  · rw [if_pos (Or.inl h1)]
    refine Or.inr ⟨hr, ⟨x, y, hx.1, hx.2, hy, by omega, hi, rfl⟩, fun x2 y2 b1 b2 b3 b4 b5 => ?_⟩
    by_cases hc : x2 = x ∧ y2 = y
    · rw [hc.1, hc.2]; exact Int.le_refl _
    · exact absurd (h2 x2 y2 b1 b2 b3 (by omega)) b5
  · by_cases hl : rcQ q px py x y < least
    · rw [if_pos (Or.inr hl)]
      refine Or.inr ⟨hr, ⟨x, y, hx.1, hx.2, hy, by omega, hi, rfl⟩, fun x2 y2 b1 b2 b3 b4 b5 => ?_⟩
      by_cases hc : x2 = x ∧ y2 = y
      · rw [hc.1, hc.2]; exact Int.le_refl _
      · have := h3 x2 y2 b1 b2 b3 (by omega) b5; omega
    · rw [if_neg (by omega)]
      refine Or.inr ⟨h1, ⟨x', y', a1, a2, a3, by omega, a5, a6⟩, fun x2 y2 b1 b2 b3 b4 b5 => ?_⟩
      by_cases hc : x2 = x ∧ y2 = y
      · rw [hc.1, hc.2]; omega
      · exact h3 x2 y2 b1 b2 b3 (by omega) b5
theorem hLs_le {g : Int → Int → Int} {W : Int} {q : Int → Int} {px py y x least : Int} (hb : ∀ x' y', -1 ≤ x' → x' ≤ W → -1 ≤ y' → (y' < y ∨ (y' = y ∧ x' < x)) → rcQ q px py x' y' ≤ 200000) (h : hLs g W q px py y x least) : -1 ≤ least ∧ least ≤ 200000 := by
  rcases h with ⟨h1, h2⟩ | ⟨h1, ⟨x', y', a1, a2, a3, a4, a5, a6⟩, h3⟩
  · omega
  · have := hb x' y' a1 a2 a3 a4; omega
/-- the model's height of a point -/
theorem y_X8_heightOf (w : eW) (px py : Int) (hM : MB w) (hsp : ∀ k, 140 ≤ k → k < 144 → 1 ≤ w 38 k ∧ w 38 k ≤ 9) (hp : 0 ≤ px ∧ px ≤ 56 ∧ 0 ≤ py ∧ py ≤ 40) : ∃ h, isHt (gM w) (w 33 24) (w 33 25) (qM w) px py h ∧ (0 ≤ h ∧ h ≤ 200000) ∧ Cal mX8_heightOf [eR 33, (0, px), (0, py)] w (some (0, h)) w := by
  obtain ⟨⟨c1, c2, c3, c4, c5, c6, c7, c8, c9, c10⟩, c11, c12, c13⟩ := id hM
  have hrb : ∀ x y, -1 ≤ x → x ≤ w 33 24 → -1 ≤ y → y ≤ w 33 25 → 0 ≤ rcQ (qM w) px py x y ∧ rcQ (qM w) px py x y ≤ 200000 := fun x y h1 h2 h3 h4 => rcQ_bound (qM_bound hsp) hp (by omega)
  have outer := loop_up (P := fun y => ∀ least, hLs (gM w) (w 33 24) (qM w) px py y (-1) least → ∃ h, hLs (gM w) (w 33 24) (qM w) px py (w 33 25 + 1) (-1) h ∧ Go mX8_heightOf 5 [(0, eR 33), (1, (0, px)), (2, (0, py)), (3, (0, least)), (4, (0, y))] [] w (some (0, h)) w) (-1) (w 33 25 + 1) ?_ ?_ (-1) (by omega) (by omega) (-1) (Or.inl ⟨rfl, fun x' y' a1 a2 a3 a4 => absurd a4 (by omega)⟩)
  · obtain ⟨h, h1, h2⟩ := outer
    have hb := hLs_le (fun x' y' a1 a2 a3 a4 => (hrb x' y' a1 a2 a3 (by omega)).2) h1
    refine ⟨h, ?_, ?_, Cal.of (by decide +kernel) (Nat.le_of_ble_eq_true rfl) (tX8_heightOf_0 w px py h2)⟩
    · rcases h1 with ⟨q1, q2⟩ | ⟨q1, ⟨x', y', a1, a2, a3, a4, a5, a6⟩, q3⟩
      · have := q2 (-1) (-1) (by omega) (by omega) (by omega) (by omega)
        exact absurd (gM_1.mp this).1 (by omega)
      · exact ⟨⟨x', y', a1, a2, a3, by omega, a5, a6⟩, fun x y b1 b2 b3 b4 b5 => q3 x y b1 b2 b3 (by omega) b5⟩
    · rcases h1 with ⟨q1, q2⟩ | ⟨q1, _⟩
      · have := q2 (-1) (-1) (by omega) (by omega) (by omega) (by omega)
        exact absurd (gM_1.mp this).1 (by omega)
      · omega
  · intro least hls
    refine ⟨least, hls, ?_⟩
    apply tX8_heightOf_5 w _ _ _ _ hM (by omega)
    · intro _; exact ⟨rfl, rfl⟩
    · intro h; omega
  · intro y hy1 hy2 ih least hls
    have row := loop_up (P := fun x => ∀ least, hLs (gM w) (w 33 24) (qM w) px py y x least → ∃ l', hLs (gM w) (w 33 24) (qM w) px py y (w 33 24 + 1) l' ∧ ∀ (r : Option eV) (w9 : eW), Go mX8_heightOf 17 [(0, eR 33), (1, (0, px)), (2, (0, py)), (3, (0, l')), (4, (0, y)), (5, (0, w 33 24 + 1))] [] w r w9 → Go mX8_heightOf 17 [(0, eR 33), (1, (0, px)), (2, (0, py)), (3, (0, least)), (4, (0, y)), (5, (0, x))] [] w r w9) (-1) (w 33 24 + 1) (fun l hl => ⟨l, hl, fun _ _ h => h⟩) ?_ (-1) (by omega) (by omega) least hls
    · obtain ⟨l', hl', hgo⟩ := row
      have hb := hLs_le (fun x' y' a1 a2 a3 a4 => (hrb x' y' a1 a2 a3 (by omega)).2) hl'
      have hnx : hLs (gM w) (w 33 24) (qM w) px py (y + 1) (-1) l' := by
        rcases hl' with ⟨q1, q2⟩ | ⟨q1, ⟨x', y', a1, a2, a3, a4, a5, a6⟩, q3⟩
        · exact Or.inl ⟨q1, fun x y' b1 b2 b3 b4 => q2 x y' b1 b2 b3 (by omega)⟩
        · exact Or.inr ⟨q1, ⟨x', y', a1, a2, a3, by omega, a5, a6⟩, fun x y' b1 b2 b3 b4 b5 => q3 x y' b1 b2 b3 (by omega) b5⟩
      obtain ⟨h, h1, h2⟩ := ih l' hnx
      refine ⟨h, h1, ?_⟩
      apply tX8_heightOf_5 w _ _ _ _ hM (by omega)
      · intro hh; omega
      · intro _
        refine hgo _ _ ?_
        apply tX8_heightOf_17 w _ _ _ _ _ hM hsp hp hb (by omega) (by omega) (fun z => absurd z (by omega))
        all_goals (intros; first | with_reducible exact h2 | (exfalso; omega))
    · intro x hx1 hx2 ihx least hls
      have hb := hLs_le (fun x' y' a1 a2 a3 a4 => (hrb x' y' a1 a2 a3 (by omega)).2) hls
      have hr1 := hrb x y hx1 (by omega) hy1 (by omega)
      by_cases hi : insM w x y
      · obtain ⟨l', i1, i2⟩ := ihx least (hLs_in hls (gM_1.mpr hi))
        refine ⟨l', i1, fun r w9 h => ?_⟩
        have hfin := i2 r w9 h
        apply tX8_heightOf_17 w _ _ _ _ _ hM hsp hp hb (by omega) (by omega) (fun _ => hr1)
        all_goals (intros; first | with_reducible exact hfin | contradiction | (exfalso; omega))
      · obtain ⟨l', i1, i2⟩ := ihx _ (hLs_out ⟨hx1, by omega⟩ hy1 hls (fun z => hi (gM_1.mp z)) hr1.1)
        refine ⟨l', i1, fun r w9 h => ?_⟩
        have hfin := i2 r w9 h
        by_cases hc : least = -1 ∨ rcQ (qM w) px py x y < least
        · rw [if_pos hc] at hfin
          apply tX8_heightOf_17 w _ _ _ _ _ hM hsp hp hb (by omega) (by omega) (fun _ => hr1)
          all_goals (intros; first | with_reducible exact hfin | contradiction | (exfalso; omega))
        · rw [if_neg hc] at hfin
          apply tX8_heightOf_17 w _ _ _ _ _ hM hsp hp hb (by omega) (by omega) (fun _ => hr1)
          all_goals (intros; first | with_reducible exact hfin | contradiction | (exfalso; omega))
/-- the model's height, by name -/
noncomputable def htM (w : eW) (px py : Int) : Int := htQ (gM w) (w 33 24) (w 33 25) (qM w) px py
theorem y_X8_height (w : eW) (px py : Int) (hM : MB w) (hsp : ∀ k, 140 ≤ k → k < 144 → 1 ≤ w 38 k ∧ w 38 k ≤ 9) (hp : 0 ≤ px ∧ px ≤ 56 ∧ 0 ≤ py ∧ py ≤ 40) : isHt (gM w) (w 33 24) (w 33 25) (qM w) px py (htM w px py) ∧ (0 ≤ htM w px py ∧ htM w px py ≤ 200000) ∧ Cal mX8_heightOf [eR 33, (0, px), (0, py)] w (some (0, htM w px py)) w := by
  obtain ⟨h, h1, h2, h3⟩ := y_X8_heightOf w px py hM hsp hp
  have e : htM w px py = h := htQ_is h1
  rw [e]
  exact ⟨h1, h2, h3⟩
