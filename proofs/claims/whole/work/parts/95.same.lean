/-! the house of the class and of the model are the same -/
def SM (w : eW) : Prop := w 33 24 = w 2 0 ∧ w 33 25 = w 2 1 ∧ w 33 26 = w 2 2 ∧ w 33 27 = w 6 1 ∧ (∀ x y, 0 ≤ x → x < 14 → 0 ≤ y → y < 10 → w 38 (14 * y + x) = bitv (w 3 y) x) ∧ (∀ s, 0 ≤ s → s < 4 → w 38 (140 + s) = w 4 s) ∧ ∀ i, 0 ≤ i → i < 2 * w 2 2 → w 40 i = w 5 i
theorem SM.wide {w : eW} (h : SM w) : w 33 24 = w 2 0 := h.1
theorem SM.high {w : eW} (h : SM w) : w 33 25 = w 2 1 := h.2.1
theorem SM.marks {w : eW} (h : SM w) : w 33 26 = w 2 2 := h.2.2.1
theorem SM.acts {w : eW} (h : SM w) : w 33 27 = w 6 1 := h.2.2.2.1
theorem SM.cells {w : eW} (h : SM w) : ∀ x y, 0 ≤ x → x < 14 → 0 ≤ y → y < 10 → w 38 (14 * y + x) = bitv (w 3 y) x := h.2.2.2.2.1
theorem SM.speeds {w : eW} (h : SM w) : ∀ s, 0 ≤ s → s < 4 → w 38 (140 + s) = w 4 s := h.2.2.2.2.2.1
theorem SM.mark {w : eW} (h : SM w) : ∀ i, 0 ≤ i → i < 2 * w 2 2 → w 40 i = w 5 i := h.2.2.2.2.2.2
theorem SM.g {w : eW} (h : SM w) (hB : HB w) : gM w = gC w := by
  obtain ⟨⟨b1, b2, b3, b4, b5, b6⟩, b7, b8, b9⟩ := id hB
  funext x y
  unfold gM gC
  have e : insM w x y ↔ insC w x y := by
    unfold insM insC
    rw [h.wide, h.high]
    constructor
    · rintro ⟨h1, h2, h3, h4, h5⟩
      rw [h.cells x y h1 (by omega) h3 (by omega)] at h5
      exact ⟨h1, by omega, h3, by omega, h5⟩
    · rintro ⟨h1, h2, h3, h4, h5⟩
      refine ⟨h1, by omega, h3, by omega, ?_⟩
      rw [h.cells x y h1 (by omega) h3 (by omega)]
      exact h5
  by_cases hi : insM w x y
  · rw [if_pos hi, if_pos (e.mp hi)]
  · rw [if_neg hi, if_neg (mt e.mpr hi)]
theorem SM.ac {w : eW} (h : SM w) : w 38 141 + w 38 143 = w 4 1 + w 4 3 := by
  have h1 := h.speeds 1 (by decide) (by decide)
  have h3 := h.speeds 3 (by decide) (by decide)
  rw [show (140 : Int) + 1 = 141 by decide] at h1
  rw [show (140 : Int) + 3 = 143 by decide] at h3
  rw [h1, h3]
theorem SM.dn {w : eW} (h : SM w) : w 38 140 + w 38 142 = w 4 0 + w 4 2 := by
  have h1 := h.speeds 0 (by decide) (by decide)
  have h3 := h.speeds 2 (by decide) (by decide)
  rw [show (140 : Int) + 0 = 140 by decide] at h1
  rw [show (140 : Int) + 2 = 142 by decide] at h3
  rw [h1, h3]
theorem SM.sp {w : eW} (h : SM w) (hH : HH w) : ∀ k, 140 ≤ k → k < 144 → 1 ≤ w 38 k ∧ w 38 k ≤ 9 := fun k h1 h2 => by
  have e := h.speeds (k - 140) (by omega) (by omega)
  rw [show 140 + (k - 140) = k by omega] at e
  rw [e]
  exact ⟨hH.2.1 _ (by omega) (by omega), (hH.1.2.2.1 _ (by omega) (by omega)).2⟩
theorem SM.wl {w : eW} (h : SM w) (hB : HB w) : wallsM w = wallsOf w := by
  unfold wallsM wallsOf
  rw [h.g hB, h.wide, h.high]
theorem SM.fr {S : List Nat} {w w1 : eW} (h : SM w) (hF : Fr S w w1) (hS : 2 ∉ S ∧ 3 ∉ S ∧ 4 ∉ S ∧ 5 ∉ S ∧ 6 ∉ S ∧ 38 ∉ S ∧ 40 ∉ S) (h33 : ∀ i, 24 ≤ i → i ≤ 28 → w1 33 i = w 33 i) : SM w1 := by
  obtain ⟨s1, s2, s3, s4, s5, s6, s7⟩ := h
  refine ⟨?_, ?_, ?_, ?_, ?_, ?_, ?_⟩
  · rw [h33 24 (by decide) (by decide), hF 2 hS.1]; exact s1
  · rw [h33 25 (by decide) (by decide), hF 2 hS.1]; exact s2
  · rw [h33 26 (by decide) (by decide), hF 2 hS.1]; exact s3
  · rw [h33 27 (by decide) (by decide), hF 6 hS.2.2.2.2.1]; exact s4
  · rw [hF 38 hS.2.2.2.2.2.1, hF 3 hS.2.1]; exact s5
  · rw [hF 38 hS.2.2.2.2.2.1, hF 4 hS.2.2.1]; exact s6
  · rw [hF 40 hS.2.2.2.2.2.2, hF 2 hS.1, hF 5 hS.2.2.2.1]; exact s7
