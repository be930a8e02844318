/-- a cell ahead of y, x at which the roof slopes to s -/
def slI (g : Int → Int → Int) (W : Int) (q : Int → Int) (px py h y x s : Int) : Prop := ∃ x' y', -1 ≤ x' ∧ x' ≤ W ∧ -1 ≤ y' ∧ (y' < y ∨ (y' = y ∧ x' < x)) ∧ ¬ g x' y' = 1 ∧ rcQ q px py x' y' = h ∧ tmQ q px py x' y' s = h
noncomputable def slS (g : Int → Int → Int) (W : Int) (q : Int → Int) (px py h y x : Int) : Int := bI (slI g W q px py h y x 0) + 2 * bI (slI g W q px py h y x 1) + 4 * bI (slI g W q px py h y x 2) + 8 * bI (slI g W q px py h y x 3)
theorem slI_skip {g : Int → Int → Int} {W : Int} {q : Int → Int} {px py h y x s : Int} (hn : g x y = 1 ∨ ¬ rcQ q px py x y = h) : slI g W q px py h y (x + 1) s ↔ slI g W q px py h y x s := by
  constructor
  · rintro ⟨x', y', a1, a2, a3, a4, a5, a6, a7⟩
    refine ⟨x', y', a1, a2, a3, ?_, a5, a6, a7⟩
    by_cases hc : x' = x ∧ y' = y
    · obtain ⟨rfl, rfl⟩ := hc
      rcases hn with hn | hn
      · exact absurd hn a5
      · exact absurd a6 hn
    · omega
  · rintro ⟨x', y', a1, a2, a3, a4, a5, a6, a7⟩
    exact ⟨x', y', a1, a2, a3, by omega, a5, a6, a7⟩
theorem slI_add {g : Int → Int → Int} {W : Int} {q : Int → Int} {px py h y x s : Int} (hx : -1 ≤ x ∧ x ≤ W) (hy : -1 ≤ y) (h1 : ¬ g x y = 1) (h2 : rcQ q px py x y = h) : slI g W q px py h y (x + 1) s ↔ slI g W q px py h y x s ∨ tmQ q px py x y s = h := by
  constructor
  · rintro ⟨x', y', a1, a2, a3, a4, a5, a6, a7⟩
    by_cases hc : x' = x ∧ y' = y
    · obtain ⟨rfl, rfl⟩ := hc
      exact Or.inr a7
    · exact Or.inl ⟨x', y', a1, a2, a3, by omega, a5, a6, a7⟩
  · rintro (⟨x', y', a1, a2, a3, a4, a5, a6, a7⟩ | hc)
    · exact ⟨x', y', a1, a2, a3, by omega, a5, a6, a7⟩
    · exact ⟨x, y, hx.1, hx.2, hy, by omega, h1, h2, hc⟩
theorem slI_row {g : Int → Int → Int} {W : Int} {q : Int → Int} {px py h y s : Int} : slI g W q px py h (y + 1) (-1) s ↔ slI g W q px py h y (W + 1) s := by
  constructor
  · rintro ⟨x', y', a1, a2, a3, a4, a5, a6, a7⟩
    exact ⟨x', y', a1, a2, a3, by omega, a5, a6, a7⟩
  · rintro ⟨x', y', a1, a2, a3, a4, a5, a6, a7⟩
    exact ⟨x', y', a1, a2, a3, by omega, a5, a6, a7⟩
theorem slI_0 {g : Int → Int → Int} {W : Int} {q : Int → Int} {px py h s : Int} : ¬ slI g W q px py h (-1) (-1) s := by
  rintro ⟨x', y', a1, a2, a3, a4, a5, a6, a7⟩
  omega
theorem slI_all {g : Int → Int → Int} {W H : Int} {q : Int → Int} {px py h s : Int} : slI g W q px py h (H + 1) (-1) s ↔ slP g W H q px py h s := by
  constructor
  · rintro ⟨x', y', a1, a2, a3, a4, a5, a6, a7⟩
    exact ⟨x', y', a1, a2, a3, by omega, a5, a6, a7⟩
  · rintro ⟨x', y', a1, a2, a3, a4, a5, a6, a7⟩
    exact ⟨x', y', a1, a2, a3, by omega, a5, a6, a7⟩
theorem slS_skip {g : Int → Int → Int} {W : Int} {q : Int → Int} {px py h y x : Int} (hn : g x y = 1 ∨ ¬ rcQ q px py x y = h) : slS g W q px py h y (x + 1) = slS g W q px py h y x := by
  unfold slS
  rw [bI_congr (slI_skip (s := 0) hn), bI_congr (slI_skip (s := 1) hn), bI_congr (slI_skip (s := 2) hn), bI_congr (slI_skip (s := 3) hn)]
theorem slS_row {g : Int → Int → Int} {W : Int} {q : Int → Int} {px py h y : Int} : slS g W q px py h (y + 1) (-1) = slS g W q px py h y (W + 1) := by
  unfold slS
  rw [bI_congr (slI_row (s := 0)), bI_congr (slI_row (s := 1)), bI_congr (slI_row (s := 2)), bI_congr (slI_row (s := 3))]
theorem slS_0 {g : Int → Int → Int} {W : Int} {q : Int → Int} {px py h : Int} : slS g W q px py h (-1) (-1) = 0 := by
  unfold slS
  rw [bI_0 slI_0, bI_0 slI_0, bI_0 slI_0, bI_0 slI_0]
  rfl
theorem slS_all {g : Int → Int → Int} {W H : Int} {q : Int → Int} {px py h : Int} (h0 : 0 < h) : slS g W q px py h (H + 1) (-1) = slQ g W H q px py h := by
  unfold slS slQ
  rw [if_pos h0, bI_congr (slI_all (s := 0)), bI_congr (slI_all (s := 1)), bI_congr (slI_all (s := 2)), bI_congr (slI_all (s := 3))]
theorem or_0 {b0 b1 b2 b3 : Int} (h0 : b0 = 0 ∨ b0 = 1) (h1 : b1 = 0 ∨ b1 = 1) (h2 : b2 = 0 ∨ b2 = 1) (h3 : b3 = 0 ∨ b3 = 1) : eOr (b0 + 2 * b1 + 4 * b2 + 8 * b3) 0 = b0 + 2 * b1 + 4 * b2 + 8 * b3 ∧ eOr (b0 + 2 * b1 + 4 * b2 + 8 * b3) (1 * 2 ^ (0 : Int).toNat) = 1 + 2 * b1 + 4 * b2 + 8 * b3 ∧ eOr (b0 + 2 * b1 + 4 * b2 + 8 * b3) (1 * 2 ^ (1 : Int).toNat) = b0 + 2 * 1 + 4 * b2 + 8 * b3 ∧ eOr (b0 + 2 * b1 + 4 * b2 + 8 * b3) (1 * 2 ^ (2 : Int).toNat) = b0 + 2 * b1 + 4 * 1 + 8 * b3 ∧ eOr (b0 + 2 * b1 + 4 * b2 + 8 * b3) (1 * 2 ^ (3 : Int).toNat) = b0 + 2 * b1 + 4 * b2 + 8 * 1 := by
  rcases h0 with h0 | h0 <;> rcases h1 with h1 | h1 <;> rcases h2 with h2 | h2 <;> rcases h3 with h3 | h3 <;> subst h0 <;> subst h1 <;> subst h2 <;> subst h3 <;> decide
theorem y_X8_slopesOf (w : eW) (px py : Int) (hM : MB w) (hsp : ∀ k, 140 ≤ k → k < 144 → 1 ≤ w 38 k ∧ w 38 k ≤ 9) (hp : 0 ≤ px ∧ px ≤ 4 * w 33 24 ∧ 0 ≤ py ∧ py ≤ 4 * w 33 25) : Cal mX8_slopesOf [eR 33, (0, px), (0, py)] w (some (0, slG (gM w) (w 33 24) (w 33 25) (qM w) px py)) w := by
  obtain ⟨⟨c1, c2, c3, c4, c5, c6, c7, c8, c9, c10⟩, c11, c12, c13⟩ := id hM
  have hp2 : 0 ≤ px ∧ px ≤ 56 ∧ 0 ≤ py ∧ py ≤ 40 := by omega
  obtain ⟨i1, i2, i3⟩ := y_X8_height w px py hM hsp hp2
  have eg : slG (gM w) (w 33 24) (w 33 25) (qM w) px py = slQ (gM w) (w 33 24) (w 33 25) (qM w) px py (htM w px py) := rfl
  rw [eg]
  revert i1 i2 i3
  generalize htM w px py = h
  intro i1 i2 i3
  have hrb : ∀ x y, -1 ≤ x → x ≤ w 33 24 → -1 ≤ y → y ≤ w 33 25 → 0 ≤ rcQ (qM w) px py x y ∧ rcQ (qM w) px py x y ≤ 200000 := fun x y h1 h2 h3 h4 => rcQ_bound (qM_bound hsp) hp2 (by omega)
  refine Cal.of (by decide +kernel) (Nat.le_of_ble_eq_true rfl) (tX8_slopesOf_0 w px py i3 ?_)
  by_cases h0 : 0 < h
  · rw [← slS_all h0]
    have outer := loop_up (P := fun y => Go mX8_slopesOf 13 [(0, eR 33), (1, (0, px)), (2, (0, py)), (3, (0, h)), (4, (0, slS (gM w) (w 33 24) (qM w) px py h y (-1))), (5, (0, y))] [] w (some (0, slS (gM w) (w 33 24) (qM w) px py h (w 33 25 + 1) (-1))) w) (-1) (w 33 25 + 1) ?_ ?_ (-1) (by omega) (by omega)
    · rw [slS_0] at outer
      exact outer
    · apply tX8_slopesOf_13 w _ _ _ _ _ hM i2 (by omega)
      · intro _; exact ⟨rfl, rfl⟩
      · intro z; omega
      · intro z; omega
    · intro y hy1 hy2 ih
      have row := loop_up (P := fun x => Go mX8_slopesOf 29 [(0, eR 33), (1, (0, px)), (2, (0, py)), (3, (0, h)), (4, (0, slS (gM w) (w 33 24) (qM w) px py h y x)), (5, (0, y)), (6, (0, x))] [] w (some (0, slS (gM w) (w 33 24) (qM w) px py h (w 33 25 + 1) (-1))) w) (-1) (w 33 24 + 1) ?_ ?_ (-1) (by omega) (by omega)
      · apply tX8_slopesOf_13 w _ _ _ _ _ hM i2 (by omega)
        · intro z; omega
        · intro _ _; exact row
        · intro _ z; exact absurd h0 z
      · rw [slS_row] at ih
        apply tX8_slopesOf_29 w _ _ _ _ _ _ hM hsp hp2 i2 (by omega) (by omega) (fun z => absurd z (by omega))
        · intro _; exact ih
        all_goals (intro z; omega)
      · intro x hx1 hx2 ihx
        have hr := hrb x y hx1 (by omega) hy1 (by omega)
        by_cases hi : insM w x y
        · rw [slS_skip (Or.inl (gM_1.mpr hi))] at ihx
          apply tX8_slopesOf_29 w _ _ _ _ _ _ hM hsp hp2 i2 (by omega) (by omega) (fun _ => hr)
          all_goals (intros; first | with_reducible exact ihx | contradiction | (exfalso; omega))
        · by_cases hc : rcQ (qM w) px py x y = h
          · have ad : ∀ s, slI (gM w) (w 33 24) (qM w) px py h y (x + 1) s ↔ slI (gM w) (w 33 24) (qM w) px py h y x s ∨ tmQ (qM w) px py x y s = h := fun s => slI_add ⟨hx1, by omega⟩ hy1 (fun z => hi (gM_1.mp z)) hc
            have B : ∀ s, bI (slI (gM w) (w 33 24) (qM w) px py h y x s) = 0 ∨ bI (slI (gM w) (w 33 24) (qM w) px py h y x s) = 1 := fun s => bI_b _
            have B' : ∀ s, bI (slI (gM w) (w 33 24) (qM w) px py h y (x + 1) s) = 0 ∨ bI (slI (gM w) (w 33 24) (qM w) px py h y (x + 1) s) = 1 := fun s => bI_b _
            have N : ∀ s, tmQ (qM w) px py x y s = h → bI (slI (gM w) (w 33 24) (qM w) px py h y (x + 1) s) = 1 := fun s z => bI_1 ((ad s).mpr (Or.inr z))
            have K : ∀ s, ¬ tmQ (qM w) px py x y s = h → bI (slI (gM w) (w 33 24) (qM w) px py h y (x + 1) s) = bI (slI (gM w) (w 33 24) (qM w) px py h y x s) := fun s z => bI_congr ((ad s).trans ⟨fun q => q.elim id (fun q => absurd q z), Or.inl⟩)
            have tb : ∀ s, 0 ≤ s → s < 4 → eI (tmQ (qM w) px py x y s) := fun s h1 h2 => by
              have := tmQ_bound (qM_bound hsp) hp2 (x := x) (y := y) (side := s) (by omega) ⟨h1, h2⟩
              omega
            unfold slS at ihx ⊢
            revert ihx
            generalize hO0 : bI (slI (gM w) (w 33 24) (qM w) px py h y x 0) = o0
            generalize hN0 : bI (slI (gM w) (w 33 24) (qM w) px py h y (x + 1) 0) = n0
            generalize hO1 : bI (slI (gM w) (w 33 24) (qM w) px py h y x 1) = o1
            generalize hN1 : bI (slI (gM w) (w 33 24) (qM w) px py h y (x + 1) 1) = n1
            generalize hO2 : bI (slI (gM w) (w 33 24) (qM w) px py h y x 2) = o2
            generalize hN2 : bI (slI (gM w) (w 33 24) (qM w) px py h y (x + 1) 2) = n2
            generalize hO3 : bI (slI (gM w) (w 33 24) (qM w) px py h y x 3) = o3
            generalize hN3 : bI (slI (gM w) (w 33 24) (qM w) px py h y (x + 1) 3) = n3
            intro ihx
            have b0 : o0 = 0 ∨ o0 = 1 := by rw [← hO0]; exact B 0
            have d0 : n0 = 0 ∨ n0 = 1 := by rw [← hN0]; exact B' 0
            have u0 : tmQ (qM w) px py x y 0 = h → n0 = 1 := by rw [← hN0]; exact N 0
            have v0 : ¬ tmQ (qM w) px py x y 0 = h → n0 = o0 := by rw [← hN0, ← hO0]; exact K 0
            have b1 : o1 = 0 ∨ o1 = 1 := by rw [← hO1]; exact B 1
            have d1 : n1 = 0 ∨ n1 = 1 := by rw [← hN1]; exact B' 1
            have u1 : tmQ (qM w) px py x y 1 = h → n1 = 1 := by rw [← hN1]; exact N 1
            have v1 : ¬ tmQ (qM w) px py x y 1 = h → n1 = o1 := by rw [← hN1, ← hO1]; exact K 1
            have b2 : o2 = 0 ∨ o2 = 1 := by rw [← hO2]; exact B 2
            have d2 : n2 = 0 ∨ n2 = 1 := by rw [← hN2]; exact B' 2
            have u2 : tmQ (qM w) px py x y 2 = h → n2 = 1 := by rw [← hN2]; exact N 2
            have v2 : ¬ tmQ (qM w) px py x y 2 = h → n2 = o2 := by rw [← hN2, ← hO2]; exact K 2
            have b3 : o3 = 0 ∨ o3 = 1 := by rw [← hO3]; exact B 3
            have d3 : n3 = 0 ∨ n3 = 1 := by rw [← hN3]; exact B' 3
            have u3 : tmQ (qM w) px py x y 3 = h → n3 = 1 := by rw [← hN3]; exact N 3
            have v3 : ¬ tmQ (qM w) px py x y 3 = h → n3 = o3 := by rw [← hN3, ← hO3]; exact K 3
            have s4 : Go mX8_slopesOf 69 [(0, eR 33), (1, (0, px)), (2, (0, py)), (3, (0, h)), (4, (0, n0 + 2 * n1 + 4 * n2 + 8 * n3)), (5, (0, y)), (6, (0, x)), (7, (0, 3 + 1))] [] w (some (0, slS (gM w) (w 33 24) (qM w) px py h (w 33 25 + 1) (-1))) w := tX8_slopesOf4_69 w _ _ _ _ _ _ ihx
            have s3 : Go mX8_slopesOf 69 [(0, eR 33), (1, (0, px)), (2, (0, py)), (3, (0, h)), (4, (0, n0 + 2 * n1 + 4 * n2 + 8 * o3)), (5, (0, y)), (6, (0, x)), (7, (0, 2 + 1))] [] w (some (0, slS (gM w) (w 33 24) (qM w) px py h (w 33 25 + 1) (-1))) w := by
              obtain ⟨q0, q1, q2, q3, q4⟩ := or_0 d0 d1 d2 b3
              apply tX8_slopesOf3_69 w _ _ _ _ _ _ hsp hp2 (by omega) (by omega) (by omega) (tb 3 (by decide) (by decide))
              · intro z
                rw [q4]
                rw [u3 z] at s4
                exact s4
              · intro z
                rw [q0]
                rw [v3 z] at s4
                exact s4
            have s2 : Go mX8_slopesOf 69 [(0, eR 33), (1, (0, px)), (2, (0, py)), (3, (0, h)), (4, (0, n0 + 2 * n1 + 4 * o2 + 8 * o3)), (5, (0, y)), (6, (0, x)), (7, (0, 1 + 1))] [] w (some (0, slS (gM w) (w 33 24) (qM w) px py h (w 33 25 + 1) (-1))) w := by
              obtain ⟨q0, q1, q2, q3, q4⟩ := or_0 d0 d1 b2 b3
              apply tX8_slopesOf2_69 w _ _ _ _ _ _ hsp hp2 (by omega) (by omega) (by omega) (tb 2 (by decide) (by decide))
              · intro z
                rw [q3]
                rw [u2 z] at s3
                exact s3
              · intro z
                rw [q0]
                rw [v2 z] at s3
                exact s3
            have s1 : Go mX8_slopesOf 69 [(0, eR 33), (1, (0, px)), (2, (0, py)), (3, (0, h)), (4, (0, n0 + 2 * o1 + 4 * o2 + 8 * o3)), (5, (0, y)), (6, (0, x)), (7, (0, 0 + 1))] [] w (some (0, slS (gM w) (w 33 24) (qM w) px py h (w 33 25 + 1) (-1))) w := by
              obtain ⟨q0, q1, q2, q3, q4⟩ := or_0 d0 b1 b2 b3
              apply tX8_slopesOf1_69 w _ _ _ _ _ _ hsp hp2 (by omega) (by omega) (by omega) (tb 1 (by decide) (by decide))
              · intro z
                rw [q2]
                rw [u1 z] at s2
                exact s2
              · intro z
                rw [q0]
                rw [v1 z] at s2
                exact s2
            have s0 : Go mX8_slopesOf 69 [(0, eR 33), (1, (0, px)), (2, (0, py)), (3, (0, h)), (4, (0, o0 + 2 * o1 + 4 * o2 + 8 * o3)), (5, (0, y)), (6, (0, x)), (7, (0, 0))] [] w (some (0, slS (gM w) (w 33 24) (qM w) px py h (w 33 25 + 1) (-1))) w := by
              obtain ⟨q0, q1, q2, q3, q4⟩ := or_0 b0 b1 b2 b3
              apply tX8_slopesOf0_69 w _ _ _ _ _ _ hsp hp2 (by omega) (by omega) (by omega) (tb 0 (by decide) (by decide))
              · intro z
                rw [q1]
                rw [u0 z] at s1
                exact s1
              · intro z
                rw [q0]
                rw [v0 z] at s1
                exact s1
            apply tX8_slopesOf_29 w _ _ _ _ _ _ hM hsp hp2 i2 (by omega) (by omega) (fun _ => hr)
            · intro z; omega
            · intro _ z; exact absurd z hi
            · intro _ _ _; exact s0
            · intro _ _ z; exact absurd hc z
          · rw [slS_skip (Or.inr hc)] at ihx
            apply tX8_slopesOf_29 w _ _ _ _ _ _ hM hsp hp2 i2 (by omega) (by omega) (fun _ => hr)
            all_goals (intros; first | with_reducible exact ihx | contradiction | (exfalso; omega))
  · have e0 : slQ (gM w) (w 33 24) (w 33 25) (qM w) px py h = 0 := by unfold slQ; rw [if_neg h0]
    rw [e0]
    apply tX8_slopesOf_13 w _ _ _ _ _ hM i2 (by omega)
    · intro _; exact ⟨rfl, rfl⟩
    · intro _ z; exact absurd z h0
    · intro _ _; exact ⟨rfl, rfl⟩
/-- none of the cells ahead of y, x -/
def dNo (g : Int → Int → Int) (W H : Int) (q : Int → Int) (px py h s y x : Int) : Prop := ∀ x' y', (y' < y ∨ (y' = y ∧ x' < x)) → ¬ dP g W H q px py h s x' y'
theorem y_X8_dropBy0 (w : eW) (px py h : Int) (hM : MB w) (hsp : ∀ k, 140 ≤ k → k < 144 → 1 ≤ w 38 k ∧ w 38 k ≤ 9) (hW : RM w (wallsM w)) (hp : 0 ≤ px ∧ px ≤ 4 * w 33 24 ∧ 0 ≤ py ∧ py ≤ 4 * w 33 25) (hh : 0 < h ∧ h ≤ 200000) : ∃ r, isDb (gM w) (w 33 24) (w 33 25) (qM w) (wallsM w) px py h 0 r ∧ (-1 ≤ r ∧ r < 280) ∧ Cal mX8_dropBy [eR 33, (0, px), (0, py), (0, h), (0, 0)] w (some (0, r)) w := by
  obtain ⟨⟨c1, c2, c3, c4, c5, c6, c7, c8, c9, c10⟩, c11, c12, c13⟩ := id hM
  have hp2 : 0 ≤ px ∧ px ≤ 56 ∧ 0 ≤ py ∧ py ≤ 40 := by omega
  have hrb : ∀ x y, -1 ≤ x → x ≤ w 33 24 → -1 ≤ y → y ≤ w 33 25 → 0 ≤ rcQ (qM w) px py x y ∧ rcQ (qM w) px py x y ≤ 200000 := fun x y h1 h2 h3 h4 => rcQ_bound (qM_bound hsp) hp2 (by omega)
  have htb : ∀ x y, -1 ≤ x → x ≤ w 33 24 → -1 ≤ y → y ≤ w 33 25 → 0 ≤ tmQ (qM w) px py x y 0 ∧ tmQ (qM w) px py x y 0 ≤ 200000 := fun x y h1 h2 h3 h4 => tmQ_bound (qM_bound hsp) hp2 (by omega) (by decide)
  have hg : ∀ x y, gM w x y = 1 → 0 ≤ x ∧ x < ((w 33 24).toNat : Int) ∧ 0 ≤ y ∧ y < ((w 33 25).toNat : Int) := fun x y z => by
    obtain ⟨z1, z2, z3, z4, z5⟩ := gM_1.mp z
    omega
  have ebx : ∀ x, bxS x ((0 + 2) % 4) = x := fun x => rfl
  have eby : ∀ y, byS y ((0 + 2) % 4) = y + 1 := fun y => rfl
  have hwb := wAl_bound (gM w) (w 33 24).toNat (w 33 25).toNat (by omega) (by omega) 4
  have hWB := (WB_all (g := gM w) (W := (w 33 24).toNat) (H := (w 33 25).toNat) (by omega) (by omega) 4 (by decide)).2
  have hww : ∀ x y, -1 ≤ y → ¬ insM w x y → insM w (x) (y + 1) → (wlI (gM w) 0 (x) (y + 1)) ∧ Cal mX8_wallWith [eR 33, (0, x), (0, y + 1), (0, 0)] w (some (0, wallsM w 5 (0 * 140 + (y + 1) * 14 + (x)))) w := by
    intro x y h0 h1 h2
    obtain ⟨z1, z2, z3, z4, z5⟩ := id h2
    have hwl : wlI (gM w) 0 (x) (y + 1) := by
      refine ⟨gM_1.mpr h2, fun z => h1 ?_⟩
      have := gM_1.mp z
      have e1 : bxS (x) 0 = x := by show x = x; omega
      have e2 : byS (y + 1) 0 = y := by show (y + 1) - 1 = y; omega
      rw [e1, e2] at this
      exact this
    refine ⟨hwl, ?_⟩
    have := y_X8_wallWith w (g := gM w) (W := (w 33 24).toNat) (H := (w 33 25).toNat) (by omega) (by omega) hg hW (fun k k1 k2 => by
      have q := hWB k k1 k2
      have q2 := hW.2 k k1 k2
      rw [q2.1, q2.2.1, q2.2.2.1, q2.2.2.2]
      unfold wallsM
      omega) (x := x) (y := y + 1) (side := 0) (by decide) (by decide) (by omega) (by omega) (by omega) (by omega)
    rw [if_pos hwl] at this
    exact this
  have outer := loop_up (P := fun y => dNo (gM w) (w 33 24) (w 33 25) (qM w) px py h 0 y (-1) → ∃ r, isDb (gM w) (w 33 24) (w 33 25) (qM w) (wallsM w) px py h 0 r ∧ (-1 ≤ r ∧ r < 280) ∧ Go mX8_dropBy 11 [(0, eR 33), (1, (0, px)), (2, (0, py)), (3, (0, h)), (4, (0, 0)), (5, (0, (0 + 2) % 4)), (6, (0, y))] [] w (some (0, r)) w) (-1) (w 33 25 + 1) ?_ ?_ (-1) (by omega) (by omega) (fun x' y' z1 z2 => by
    obtain ⟨x1, x2, y1, y2, k⟩ := z2
    omega)
  · obtain ⟨r, o1, o2, o3⟩ := outer
    exact ⟨r, o1, o2, Cal.of (by decide +kernel) (Nat.le_of_ble_eq_true rfl) (tX8_dropBy0_0 w px py h o3)⟩
  · intro hno
    refine ⟨-1, Or.inl ⟨rfl, fun x y z => hno x y ?_ z⟩, by omega, ?_⟩
    · obtain ⟨x1, x2, y1, y2, k⟩ := z
      omega
    · apply tX8_dropBy0_11 w _ _ _ _ hM (by omega)
      · intro _; exact ⟨rfl, rfl⟩
      · intro z; omega
  · intro y hy1 hy2 ih hno
    have row := loop_up (P := fun x => dNo (gM w) (w 33 24) (w 33 25) (qM w) px py h 0 y x → ∃ r, isDb (gM w) (w 33 24) (w 33 25) (qM w) (wallsM w) px py h 0 r ∧ (-1 ≤ r ∧ r < 280) ∧ Go mX8_dropBy 23 [(0, eR 33), (1, (0, px)), (2, (0, py)), (3, (0, h)), (4, (0, 0)), (5, (0, (0 + 2) % 4)), (6, (0, y)), (7, (0, x))] [] w (some (0, r)) w) (-1) (w 33 24 + 1) ?_ ?_ (-1) (by omega) (by omega) hno
    · obtain ⟨r, o1, o2, o3⟩ := row
      refine ⟨r, o1, o2, ?_⟩
      apply tX8_dropBy0_11 w _ _ _ _ hM (by omega)
      · intro z; omega
      · intro _; exact o3
    · intro hno2
      obtain ⟨r, o1, o2, o3⟩ := ih (fun x' y' z1 z2 => hno2 x' y' (by obtain ⟨x1, x2, y1, y2, k⟩ := z2; omega) z2)
      refine ⟨r, o1, o2, ?_⟩
      apply tX8_dropBy0_23 w _ _ _ _ _ (ww := 0) hM hsp hp2 (by omega) (by omega) (by omega) (fun z => absurd z (by omega)) (fun z => absurd z (by omega)) (fun z => absurd z (by omega))
      · intro _; exact o3
      all_goals (intro z; omega)
    · intro x hx1 hx2 ihx hno2
      have hr := hrb x y hx1 (by omega) hy1 (by omega)
      have ht := htb x y hx1 (by omega) hy1 (by omega)
      by_cases hd : dP (gM w) (w 33 24) (w 33 25) (qM w) px py h 0 x y
      · obtain ⟨x1, x2, y1, y2, k1, k2, k3, k4⟩ := id hd
        have n1 : ¬ insM w x y := fun z => k1 (gM_1.mpr z)
        have n2 : insM w (x) (y + 1) := by
          rw [ebx, eby] at k2
          exact gM_1.mp k2
        obtain ⟨hwl, hcal⟩ := hww x y hy1 n1 n2
        obtain ⟨z1, z2, z3, z4, z5⟩ := id n2
        have hsem := (wall_sem (g := gM w) (W := (w 33 24).toNat) (H := (w 33 25).toNat) (by omega) (by omega) hg (s := 0) (x := x) (y := y + 1) (by decide) (by decide) (by omega) (by omega) (by omega) (by omega)).2.1 hwl
        have hr0 : 0 ≤ wallsM w 5 (0 * 140 + (y + 1) * 14 + (x)) ∧ wallsM w 5 (0 * 140 + (y + 1) * 14 + (x)) < 280 := by
          unfold wallsM
          omega
        refine ⟨wallsM w 5 (0 * 140 + (y + 1) * 14 + (x)), Or.inr ⟨x, y, hd, fun x' y' z => ?_, hr0.1, rfl⟩, by omega, ?_⟩
        · exact Classical.byContradiction fun q => hno2 x' y' (by omega) z
        · apply tX8_dropBy0_23 w _ _ _ _ _ hM hsp hp2 (by omega) (by omega) (by omega) (fun _ => hr) (fun _ => ht) (fun _ _ _ => hcal)
          all_goals (intros; first | exact ⟨rfl, rfl⟩ | contradiction | (exfalso; omega))
      · obtain ⟨r, o1, o2, o3⟩ := ihx (fun x' y' z1 z2 => by
          by_cases hc : x' = x ∧ y' = y
          · rw [hc.1, hc.2] at z2; exact hd z2
          · exact hno2 x' y' (by omega) z2)
        refine ⟨r, o1, o2, ?_⟩
        apply tX8_dropBy0_23 w _ _ _ _ _ (ww := wallsM w 5 (0 * 140 + (y + 1) * 14 + (x))) hM hsp hp2 (by omega) (by omega) (by omega) (fun _ => hr) (fun _ => ht) (fun _ z1 z2 => (hww x y hy1 z1 z2).2)
        · intro z; omega
        · intro _ _; exact o3
        · intro _ z1 z2 z3 z4
          exact absurd ⟨hx1, by omega, hy1, by omega, fun z => z1 (gM_1.mp z), by rw [ebx, eby]; exact gM_1.mpr z2, z3, z4⟩ hd
        all_goals (intros; exact o3)
theorem y_X8_dropBy1 (w : eW) (px py h : Int) (hM : MB w) (hsp : ∀ k, 140 ≤ k → k < 144 → 1 ≤ w 38 k ∧ w 38 k ≤ 9) (hW : RM w (wallsM w)) (hp : 0 ≤ px ∧ px ≤ 4 * w 33 24 ∧ 0 ≤ py ∧ py ≤ 4 * w 33 25) (hh : 0 < h ∧ h ≤ 200000) : ∃ r, isDb (gM w) (w 33 24) (w 33 25) (qM w) (wallsM w) px py h 1 r ∧ (-1 ≤ r ∧ r < 280) ∧ Cal mX8_dropBy [eR 33, (0, px), (0, py), (0, h), (0, 1)] w (some (0, r)) w := by
  obtain ⟨⟨c1, c2, c3, c4, c5, c6, c7, c8, c9, c10⟩, c11, c12, c13⟩ := id hM
  have hp2 : 0 ≤ px ∧ px ≤ 56 ∧ 0 ≤ py ∧ py ≤ 40 := by omega
  have hrb : ∀ x y, -1 ≤ x → x ≤ w 33 24 → -1 ≤ y → y ≤ w 33 25 → 0 ≤ rcQ (qM w) px py x y ∧ rcQ (qM w) px py x y ≤ 200000 := fun x y h1 h2 h3 h4 => rcQ_bound (qM_bound hsp) hp2 (by omega)
  have htb : ∀ x y, -1 ≤ x → x ≤ w 33 24 → -1 ≤ y → y ≤ w 33 25 → 0 ≤ tmQ (qM w) px py x y 1 ∧ tmQ (qM w) px py x y 1 ≤ 200000 := fun x y h1 h2 h3 h4 => tmQ_bound (qM_bound hsp) hp2 (by omega) (by decide)
  have hg : ∀ x y, gM w x y = 1 → 0 ≤ x ∧ x < ((w 33 24).toNat : Int) ∧ 0 ≤ y ∧ y < ((w 33 25).toNat : Int) := fun x y z => by
    obtain ⟨z1, z2, z3, z4, z5⟩ := gM_1.mp z
    omega
  have ebx : ∀ x, bxS x ((1 + 2) % 4) = x - 1 := fun x => rfl
  have eby : ∀ y, byS y ((1 + 2) % 4) = y := fun y => rfl
  have hwb := wAl_bound (gM w) (w 33 24).toNat (w 33 25).toNat (by omega) (by omega) 4
  have hWB := (WB_all (g := gM w) (W := (w 33 24).toNat) (H := (w 33 25).toNat) (by omega) (by omega) 4 (by decide)).2
  have hww : ∀ x y, -1 ≤ y → ¬ insM w x y → insM w (x - 1) (y) → (wlI (gM w) 1 (x - 1) (y)) ∧ Cal mX8_wallWith [eR 33, (0, x - 1), (0, y), (0, 1)] w (some (0, wallsM w 5 (1 * 140 + (y) * 14 + (x - 1)))) w := by
    intro x y h0 h1 h2
    obtain ⟨z1, z2, z3, z4, z5⟩ := id h2
    have hwl : wlI (gM w) 1 (x - 1) (y) := by
      refine ⟨gM_1.mpr h2, fun z => h1 ?_⟩
      have := gM_1.mp z
      have e1 : bxS (x - 1) 1 = x := by show (x - 1) + 1 = x; omega
      have e2 : byS (y) 1 = y := by show y = y; omega
      rw [e1, e2] at this
      exact this
    refine ⟨hwl, ?_⟩
    have := y_X8_wallWith w (g := gM w) (W := (w 33 24).toNat) (H := (w 33 25).toNat) (by omega) (by omega) hg hW (fun k k1 k2 => by
      have q := hWB k k1 k2
      have q2 := hW.2 k k1 k2
      rw [q2.1, q2.2.1, q2.2.2.1, q2.2.2.2]
      unfold wallsM
      omega) (x := x - 1) (y := y) (side := 1) (by decide) (by decide) (by omega) (by omega) (by omega) (by omega)
    rw [if_pos hwl] at this
    exact this
  have outer := loop_up (P := fun y => dNo (gM w) (w 33 24) (w 33 25) (qM w) px py h 1 y (-1) → ∃ r, isDb (gM w) (w 33 24) (w 33 25) (qM w) (wallsM w) px py h 1 r ∧ (-1 ≤ r ∧ r < 280) ∧ Go mX8_dropBy 11 [(0, eR 33), (1, (0, px)), (2, (0, py)), (3, (0, h)), (4, (0, 1)), (5, (0, (1 + 2) % 4)), (6, (0, y))] [] w (some (0, r)) w) (-1) (w 33 25 + 1) ?_ ?_ (-1) (by omega) (by omega) (fun x' y' z1 z2 => by
    obtain ⟨x1, x2, y1, y2, k⟩ := z2
    omega)
  · obtain ⟨r, o1, o2, o3⟩ := outer
    exact ⟨r, o1, o2, Cal.of (by decide +kernel) (Nat.le_of_ble_eq_true rfl) (tX8_dropBy1_0 w px py h o3)⟩
  · intro hno
    refine ⟨-1, Or.inl ⟨rfl, fun x y z => hno x y ?_ z⟩, by omega, ?_⟩
    · obtain ⟨x1, x2, y1, y2, k⟩ := z
      omega
    · apply tX8_dropBy1_11 w _ _ _ _ hM (by omega)
      · intro _; exact ⟨rfl, rfl⟩
      · intro z; omega
  · intro y hy1 hy2 ih hno
    have row := loop_up (P := fun x => dNo (gM w) (w 33 24) (w 33 25) (qM w) px py h 1 y x → ∃ r, isDb (gM w) (w 33 24) (w 33 25) (qM w) (wallsM w) px py h 1 r ∧ (-1 ≤ r ∧ r < 280) ∧ Go mX8_dropBy 23 [(0, eR 33), (1, (0, px)), (2, (0, py)), (3, (0, h)), (4, (0, 1)), (5, (0, (1 + 2) % 4)), (6, (0, y)), (7, (0, x))] [] w (some (0, r)) w) (-1) (w 33 24 + 1) ?_ ?_ (-1) (by omega) (by omega) hno
    · obtain ⟨r, o1, o2, o3⟩ := row
      refine ⟨r, o1, o2, ?_⟩
      apply tX8_dropBy1_11 w _ _ _ _ hM (by omega)
      · intro z; omega
      · intro _; exact o3
    · intro hno2
      obtain ⟨r, o1, o2, o3⟩ := ih (fun x' y' z1 z2 => hno2 x' y' (by obtain ⟨x1, x2, y1, y2, k⟩ := z2; omega) z2)
      refine ⟨r, o1, o2, ?_⟩
      apply tX8_dropBy1_23 w _ _ _ _ _ (ww := 0) hM hsp hp2 (by omega) (by omega) (by omega) (fun z => absurd z (by omega)) (fun z => absurd z (by omega)) (fun z => absurd z (by omega))
      · intro _; exact o3
      all_goals (intro z; omega)
    · intro x hx1 hx2 ihx hno2
      have hr := hrb x y hx1 (by omega) hy1 (by omega)
      have ht := htb x y hx1 (by omega) hy1 (by omega)
      by_cases hd : dP (gM w) (w 33 24) (w 33 25) (qM w) px py h 1 x y
      · obtain ⟨x1, x2, y1, y2, k1, k2, k3, k4⟩ := id hd
        have n1 : ¬ insM w x y := fun z => k1 (gM_1.mpr z)
        have n2 : insM w (x - 1) (y) := by
          rw [ebx, eby] at k2
          exact gM_1.mp k2
        obtain ⟨hwl, hcal⟩ := hww x y hy1 n1 n2
        obtain ⟨z1, z2, z3, z4, z5⟩ := id n2
        have hsem := (wall_sem (g := gM w) (W := (w 33 24).toNat) (H := (w 33 25).toNat) (by omega) (by omega) hg (s := 1) (x := x - 1) (y := y) (by decide) (by decide) (by omega) (by omega) (by omega) (by omega)).2.1 hwl
        have hr0 : 0 ≤ wallsM w 5 (1 * 140 + (y) * 14 + (x - 1)) ∧ wallsM w 5 (1 * 140 + (y) * 14 + (x - 1)) < 280 := by
          unfold wallsM
          omega
        refine ⟨wallsM w 5 (1 * 140 + (y) * 14 + (x - 1)), Or.inr ⟨x, y, hd, fun x' y' z => ?_, hr0.1, rfl⟩, by omega, ?_⟩
        · exact Classical.byContradiction fun q => hno2 x' y' (by omega) z
        · apply tX8_dropBy1_23 w _ _ _ _ _ hM hsp hp2 (by omega) (by omega) (by omega) (fun _ => hr) (fun _ => ht) (fun _ _ _ => hcal)
          all_goals (intros; first | exact ⟨rfl, rfl⟩ | contradiction | (exfalso; omega))
      · obtain ⟨r, o1, o2, o3⟩ := ihx (fun x' y' z1 z2 => by
          by_cases hc : x' = x ∧ y' = y
          · rw [hc.1, hc.2] at z2; exact hd z2
          · exact hno2 x' y' (by omega) z2)
        refine ⟨r, o1, o2, ?_⟩
        apply tX8_dropBy1_23 w _ _ _ _ _ (ww := wallsM w 5 (1 * 140 + (y) * 14 + (x - 1))) hM hsp hp2 (by omega) (by omega) (by omega) (fun _ => hr) (fun _ => ht) (fun _ z1 z2 => (hww x y hy1 z1 z2).2)
        · intro z; omega
        · intro _ _; exact o3
        · intro _ z1 z2 z3 z4
          exact absurd ⟨hx1, by omega, hy1, by omega, fun z => z1 (gM_1.mp z), by rw [ebx, eby]; exact gM_1.mpr z2, z3, z4⟩ hd
        all_goals (intros; exact o3)
theorem y_X8_dropBy2 (w : eW) (px py h : Int) (hM : MB w) (hsp : ∀ k, 140 ≤ k → k < 144 → 1 ≤ w 38 k ∧ w 38 k ≤ 9) (hW : RM w (wallsM w)) (hp : 0 ≤ px ∧ px ≤ 4 * w 33 24 ∧ 0 ≤ py ∧ py ≤ 4 * w 33 25) (hh : 0 < h ∧ h ≤ 200000) : ∃ r, isDb (gM w) (w 33 24) (w 33 25) (qM w) (wallsM w) px py h 2 r ∧ (-1 ≤ r ∧ r < 280) ∧ Cal mX8_dropBy [eR 33, (0, px), (0, py), (0, h), (0, 2)] w (some (0, r)) w := by
  obtain ⟨⟨c1, c2, c3, c4, c5, c6, c7, c8, c9, c10⟩, c11, c12, c13⟩ := id hM
  have hp2 : 0 ≤ px ∧ px ≤ 56 ∧ 0 ≤ py ∧ py ≤ 40 := by omega
  have hrb : ∀ x y, -1 ≤ x → x ≤ w 33 24 → -1 ≤ y → y ≤ w 33 25 → 0 ≤ rcQ (qM w) px py x y ∧ rcQ (qM w) px py x y ≤ 200000 := fun x y h1 h2 h3 h4 => rcQ_bound (qM_bound hsp) hp2 (by omega)
  have htb : ∀ x y, -1 ≤ x → x ≤ w 33 24 → -1 ≤ y → y ≤ w 33 25 → 0 ≤ tmQ (qM w) px py x y 2 ∧ tmQ (qM w) px py x y 2 ≤ 200000 := fun x y h1 h2 h3 h4 => tmQ_bound (qM_bound hsp) hp2 (by omega) (by decide)
  have hg : ∀ x y, gM w x y = 1 → 0 ≤ x ∧ x < ((w 33 24).toNat : Int) ∧ 0 ≤ y ∧ y < ((w 33 25).toNat : Int) := fun x y z => by
    obtain ⟨z1, z2, z3, z4, z5⟩ := gM_1.mp z
    omega
  have ebx : ∀ x, bxS x ((2 + 2) % 4) = x := fun x => rfl
  have eby : ∀ y, byS y ((2 + 2) % 4) = y - 1 := fun y => rfl
  have hwb := wAl_bound (gM w) (w 33 24).toNat (w 33 25).toNat (by omega) (by omega) 4
  have hWB := (WB_all (g := gM w) (W := (w 33 24).toNat) (H := (w 33 25).toNat) (by omega) (by omega) 4 (by decide)).2
  have hww : ∀ x y, -1 ≤ y → ¬ insM w x y → insM w (x) (y - 1) → (wlI (gM w) 2 (x) (y - 1)) ∧ Cal mX8_wallWith [eR 33, (0, x), (0, y - 1), (0, 2)] w (some (0, wallsM w 5 (2 * 140 + (y - 1) * 14 + (x)))) w := by
    intro x y h0 h1 h2
    obtain ⟨z1, z2, z3, z4, z5⟩ := id h2
    have hwl : wlI (gM w) 2 (x) (y - 1) := by
      refine ⟨gM_1.mpr h2, fun z => h1 ?_⟩
      have := gM_1.mp z
      have e1 : bxS (x) 2 = x := by show x = x; omega
      have e2 : byS (y - 1) 2 = y := by show (y - 1) + 1 = y; omega
      rw [e1, e2] at this
      exact this
    refine ⟨hwl, ?_⟩
    have := y_X8_wallWith w (g := gM w) (W := (w 33 24).toNat) (H := (w 33 25).toNat) (by omega) (by omega) hg hW (fun k k1 k2 => by
      have q := hWB k k1 k2
      have q2 := hW.2 k k1 k2
      rw [q2.1, q2.2.1, q2.2.2.1, q2.2.2.2]
      unfold wallsM
      omega) (x := x) (y := y - 1) (side := 2) (by decide) (by decide) (by omega) (by omega) (by omega) (by omega)
    rw [if_pos hwl] at this
    exact this
  have outer := loop_up (P := fun y => dNo (gM w) (w 33 24) (w 33 25) (qM w) px py h 2 y (-1) → ∃ r, isDb (gM w) (w 33 24) (w 33 25) (qM w) (wallsM w) px py h 2 r ∧ (-1 ≤ r ∧ r < 280) ∧ Go mX8_dropBy 11 [(0, eR 33), (1, (0, px)), (2, (0, py)), (3, (0, h)), (4, (0, 2)), (5, (0, (2 + 2) % 4)), (6, (0, y))] [] w (some (0, r)) w) (-1) (w 33 25 + 1) ?_ ?_ (-1) (by omega) (by omega) (fun x' y' z1 z2 => by
    obtain ⟨x1, x2, y1, y2, k⟩ := z2
    omega)
  · obtain ⟨r, o1, o2, o3⟩ := outer
    exact ⟨r, o1, o2, Cal.of (by decide +kernel) (Nat.le_of_ble_eq_true rfl) (tX8_dropBy2_0 w px py h o3)⟩
  · intro hno
    refine ⟨-1, Or.inl ⟨rfl, fun x y z => hno x y ?_ z⟩, by omega, ?_⟩
    · obtain ⟨x1, x2, y1, y2, k⟩ := z
      omega
    · apply tX8_dropBy2_11 w _ _ _ _ hM (by omega)
      · intro _; exact ⟨rfl, rfl⟩
      · intro z; omega
  · intro y hy1 hy2 ih hno
    have row := loop_up (P := fun x => dNo (gM w) (w 33 24) (w 33 25) (qM w) px py h 2 y x → ∃ r, isDb (gM w) (w 33 24) (w 33 25) (qM w) (wallsM w) px py h 2 r ∧ (-1 ≤ r ∧ r < 280) ∧ Go mX8_dropBy 23 [(0, eR 33), (1, (0, px)), (2, (0, py)), (3, (0, h)), (4, (0, 2)), (5, (0, (2 + 2) % 4)), (6, (0, y)), (7, (0, x))] [] w (some (0, r)) w) (-1) (w 33 24 + 1) ?_ ?_ (-1) (by omega) (by omega) hno
    · obtain ⟨r, o1, o2, o3⟩ := row
      refine ⟨r, o1, o2, ?_⟩
      apply tX8_dropBy2_11 w _ _ _ _ hM (by omega)
      · intro z; omega
      · intro _; exact o3
    · intro hno2
      obtain ⟨r, o1, o2, o3⟩ := ih (fun x' y' z1 z2 => hno2 x' y' (by obtain ⟨x1, x2, y1, y2, k⟩ := z2; omega) z2)
      refine ⟨r, o1, o2, ?_⟩
      apply tX8_dropBy2_23 w _ _ _ _ _ (ww := 0) hM hsp hp2 (by omega) (by omega) (by omega) (fun z => absurd z (by omega)) (fun z => absurd z (by omega)) (fun z => absurd z (by omega))
      · intro _; exact o3
      all_goals (intro z; omega)
    · intro x hx1 hx2 ihx hno2
      have hr := hrb x y hx1 (by omega) hy1 (by omega)
      have ht := htb x y hx1 (by omega) hy1 (by omega)
      by_cases hd : dP (gM w) (w 33 24) (w 33 25) (qM w) px py h 2 x y
      · obtain ⟨x1, x2, y1, y2, k1, k2, k3, k4⟩ := id hd
        have n1 : ¬ insM w x y := fun z => k1 (gM_1.mpr z)
        have n2 : insM w (x) (y - 1) := by
          rw [ebx, eby] at k2
          exact gM_1.mp k2
        obtain ⟨hwl, hcal⟩ := hww x y hy1 n1 n2
        obtain ⟨z1, z2, z3, z4, z5⟩ := id n2
        have hsem := (wall_sem (g := gM w) (W := (w 33 24).toNat) (H := (w 33 25).toNat) (by omega) (by omega) hg (s := 2) (x := x) (y := y - 1) (by decide) (by decide) (by omega) (by omega) (by omega) (by omega)).2.1 hwl
        have hr0 : 0 ≤ wallsM w 5 (2 * 140 + (y - 1) * 14 + (x)) ∧ wallsM w 5 (2 * 140 + (y - 1) * 14 + (x)) < 280 := by
          unfold wallsM
          omega
        refine ⟨wallsM w 5 (2 * 140 + (y - 1) * 14 + (x)), Or.inr ⟨x, y, hd, fun x' y' z => ?_, hr0.1, rfl⟩, by omega, ?_⟩
        · exact Classical.byContradiction fun q => hno2 x' y' (by omega) z
        · apply tX8_dropBy2_23 w _ _ _ _ _ hM hsp hp2 (by omega) (by omega) (by omega) (fun _ => hr) (fun _ => ht) (fun _ _ _ => hcal)
          all_goals (intros; first | exact ⟨rfl, rfl⟩ | contradiction | (exfalso; omega))
      · obtain ⟨r, o1, o2, o3⟩ := ihx (fun x' y' z1 z2 => by
          by_cases hc : x' = x ∧ y' = y
          · rw [hc.1, hc.2] at z2; exact hd z2
          · exact hno2 x' y' (by omega) z2)
        refine ⟨r, o1, o2, ?_⟩
        apply tX8_dropBy2_23 w _ _ _ _ _ (ww := wallsM w 5 (2 * 140 + (y - 1) * 14 + (x))) hM hsp hp2 (by omega) (by omega) (by omega) (fun _ => hr) (fun _ => ht) (fun _ z1 z2 => (hww x y hy1 z1 z2).2)
        · intro z; omega
        · intro _ _; exact o3
        · intro _ z1 z2 z3 z4
          exact absurd ⟨hx1, by omega, hy1, by omega, fun z => z1 (gM_1.mp z), by rw [ebx, eby]; exact gM_1.mpr z2, z3, z4⟩ hd
        all_goals (intros; exact o3)
theorem y_X8_dropBy3 (w : eW) (px py h : Int) (hM : MB w) (hsp : ∀ k, 140 ≤ k → k < 144 → 1 ≤ w 38 k ∧ w 38 k ≤ 9) (hW : RM w (wallsM w)) (hp : 0 ≤ px ∧ px ≤ 4 * w 33 24 ∧ 0 ≤ py ∧ py ≤ 4 * w 33 25) (hh : 0 < h ∧ h ≤ 200000) : ∃ r, isDb (gM w) (w 33 24) (w 33 25) (qM w) (wallsM w) px py h 3 r ∧ (-1 ≤ r ∧ r < 280) ∧ Cal mX8_dropBy [eR 33, (0, px), (0, py), (0, h), (0, 3)] w (some (0, r)) w := by
  obtain ⟨⟨c1, c2, c3, c4, c5, c6, c7, c8, c9, c10⟩, c11, c12, c13⟩ := id hM
  have hp2 : 0 ≤ px ∧ px ≤ 56 ∧ 0 ≤ py ∧ py ≤ 40 := by omega
  have hrb : ∀ x y, -1 ≤ x → x ≤ w 33 24 → -1 ≤ y → y ≤ w 33 25 → 0 ≤ rcQ (qM w) px py x y ∧ rcQ (qM w) px py x y ≤ 200000 := fun x y h1 h2 h3 h4 => rcQ_bound (qM_bound hsp) hp2 (by omega)
  have htb : ∀ x y, -1 ≤ x → x ≤ w 33 24 → -1 ≤ y → y ≤ w 33 25 → 0 ≤ tmQ (qM w) px py x y 3 ∧ tmQ (qM w) px py x y 3 ≤ 200000 := fun x y h1 h2 h3 h4 => tmQ_bound (qM_bound hsp) hp2 (by omega) (by decide)
  have hg : ∀ x y, gM w x y = 1 → 0 ≤ x ∧ x < ((w 33 24).toNat : Int) ∧ 0 ≤ y ∧ y < ((w 33 25).toNat : Int) := fun x y z => by
    obtain ⟨z1, z2, z3, z4, z5⟩ := gM_1.mp z
    omega
  have ebx : ∀ x, bxS x ((3 + 2) % 4) = x + 1 := fun x => rfl
  have eby : ∀ y, byS y ((3 + 2) % 4) = y := fun y => rfl
  have hwb := wAl_bound (gM w) (w 33 24).toNat (w 33 25).toNat (by omega) (by omega) 4
  have hWB := (WB_all (g := gM w) (W := (w 33 24).toNat) (H := (w 33 25).toNat) (by omega) (by omega) 4 (by decide)).2
  have hww : ∀ x y, -1 ≤ y → ¬ insM w x y → insM w (x + 1) (y) → (wlI (gM w) 3 (x + 1) (y)) ∧ Cal mX8_wallWith [eR 33, (0, x + 1), (0, y), (0, 3)] w (some (0, wallsM w 5 (3 * 140 + (y) * 14 + (x + 1)))) w := by
    intro x y h0 h1 h2
    obtain ⟨z1, z2, z3, z4, z5⟩ := id h2
    have hwl : wlI (gM w) 3 (x + 1) (y) := by
      refine ⟨gM_1.mpr h2, fun z => h1 ?_⟩
      have := gM_1.mp z
      have e1 : bxS (x + 1) 3 = x := by show (x + 1) - 1 = x; omega
      have e2 : byS (y) 3 = y := by show y = y; omega
      rw [e1, e2] at this
      exact this
    refine ⟨hwl, ?_⟩
    have := y_X8_wallWith w (g := gM w) (W := (w 33 24).toNat) (H := (w 33 25).toNat) (by omega) (by omega) hg hW (fun k k1 k2 => by
      have q := hWB k k1 k2
      have q2 := hW.2 k k1 k2
      rw [q2.1, q2.2.1, q2.2.2.1, q2.2.2.2]
      unfold wallsM
      omega) (x := x + 1) (y := y) (side := 3) (by decide) (by decide) (by omega) (by omega) (by omega) (by omega)
    rw [if_pos hwl] at this
    exact this
  have outer := loop_up (P := fun y => dNo (gM w) (w 33 24) (w 33 25) (qM w) px py h 3 y (-1) → ∃ r, isDb (gM w) (w 33 24) (w 33 25) (qM w) (wallsM w) px py h 3 r ∧ (-1 ≤ r ∧ r < 280) ∧ Go mX8_dropBy 11 [(0, eR 33), (1, (0, px)), (2, (0, py)), (3, (0, h)), (4, (0, 3)), (5, (0, (3 + 2) % 4)), (6, (0, y))] [] w (some (0, r)) w) (-1) (w 33 25 + 1) ?_ ?_ (-1) (by omega) (by omega) (fun x' y' z1 z2 => by
    obtain ⟨x1, x2, y1, y2, k⟩ := z2
    omega)
  · obtain ⟨r, o1, o2, o3⟩ := outer
    exact ⟨r, o1, o2, Cal.of (by decide +kernel) (Nat.le_of_ble_eq_true rfl) (tX8_dropBy3_0 w px py h o3)⟩
  · intro hno
    refine ⟨-1, Or.inl ⟨rfl, fun x y z => hno x y ?_ z⟩, by omega, ?_⟩
    · obtain ⟨x1, x2, y1, y2, k⟩ := z
      omega
    · apply tX8_dropBy3_11 w _ _ _ _ hM (by omega)
      · intro _; exact ⟨rfl, rfl⟩
      · intro z; omega
  · intro y hy1 hy2 ih hno
    have row := loop_up (P := fun x => dNo (gM w) (w 33 24) (w 33 25) (qM w) px py h 3 y x → ∃ r, isDb (gM w) (w 33 24) (w 33 25) (qM w) (wallsM w) px py h 3 r ∧ (-1 ≤ r ∧ r < 280) ∧ Go mX8_dropBy 23 [(0, eR 33), (1, (0, px)), (2, (0, py)), (3, (0, h)), (4, (0, 3)), (5, (0, (3 + 2) % 4)), (6, (0, y)), (7, (0, x))] [] w (some (0, r)) w) (-1) (w 33 24 + 1) ?_ ?_ (-1) (by omega) (by omega) hno
    · obtain ⟨r, o1, o2, o3⟩ := row
      refine ⟨r, o1, o2, ?_⟩
      apply tX8_dropBy3_11 w _ _ _ _ hM (by omega)
      · intro z; omega
      · intro _; exact o3
    · intro hno2
      obtain ⟨r, o1, o2, o3⟩ := ih (fun x' y' z1 z2 => hno2 x' y' (by obtain ⟨x1, x2, y1, y2, k⟩ := z2; omega) z2)
      refine ⟨r, o1, o2, ?_⟩
      apply tX8_dropBy3_23 w _ _ _ _ _ (ww := 0) hM hsp hp2 (by omega) (by omega) (by omega) (fun z => absurd z (by omega)) (fun z => absurd z (by omega)) (fun z => absurd z (by omega))
      · intro _; exact o3
      all_goals (intro z; omega)
    · intro x hx1 hx2 ihx hno2
      have hr := hrb x y hx1 (by omega) hy1 (by omega)
      have ht := htb x y hx1 (by omega) hy1 (by omega)
      by_cases hd : dP (gM w) (w 33 24) (w 33 25) (qM w) px py h 3 x y
      · obtain ⟨x1, x2, y1, y2, k1, k2, k3, k4⟩ := id hd
        have n1 : ¬ insM w x y := fun z => k1 (gM_1.mpr z)
        have n2 : insM w (x + 1) (y) := by
          rw [ebx, eby] at k2
          exact gM_1.mp k2
        obtain ⟨hwl, hcal⟩ := hww x y hy1 n1 n2
        obtain ⟨z1, z2, z3, z4, z5⟩ := id n2
        have hsem := (wall_sem (g := gM w) (W := (w 33 24).toNat) (H := (w 33 25).toNat) (by omega) (by omega) hg (s := 3) (x := x + 1) (y := y) (by decide) (by decide) (by omega) (by omega) (by omega) (by omega)).2.1 hwl
        have hr0 : 0 ≤ wallsM w 5 (3 * 140 + (y) * 14 + (x + 1)) ∧ wallsM w 5 (3 * 140 + (y) * 14 + (x + 1)) < 280 := by
          unfold wallsM
          omega
        refine ⟨wallsM w 5 (3 * 140 + (y) * 14 + (x + 1)), Or.inr ⟨x, y, hd, fun x' y' z => ?_, hr0.1, rfl⟩, by omega, ?_⟩
        · exact Classical.byContradiction fun q => hno2 x' y' (by omega) z
        · apply tX8_dropBy3_23 w _ _ _ _ _ hM hsp hp2 (by omega) (by omega) (by omega) (fun _ => hr) (fun _ => ht) (fun _ _ _ => hcal)
          all_goals (intros; first | exact ⟨rfl, rfl⟩ | contradiction | (exfalso; omega))
      · obtain ⟨r, o1, o2, o3⟩ := ihx (fun x' y' z1 z2 => by
          by_cases hc : x' = x ∧ y' = y
          · rw [hc.1, hc.2] at z2; exact hd z2
          · exact hno2 x' y' (by omega) z2)
        refine ⟨r, o1, o2, ?_⟩
        apply tX8_dropBy3_23 w _ _ _ _ _ (ww := wallsM w 5 (3 * 140 + (y) * 14 + (x + 1))) hM hsp hp2 (by omega) (by omega) (by omega) (fun _ => hr) (fun _ => ht) (fun _ z1 z2 => (hww x y hy1 z1 z2).2)
        · intro z; omega
        · intro _ _; exact o3
        · intro _ z1 z2 z3 z4
          exact absurd ⟨hx1, by omega, hy1, by omega, fun z => z1 (gM_1.mp z), by rw [ebx, eby]; exact gM_1.mpr z2, z3, z4⟩ hd
        all_goals (intros; exact o3)
theorem y_X8_dropOf (w : eW) (px py : Int) (hM : MB w) (hsp : ∀ k, 140 ≤ k → k < 144 → 1 ≤ w 38 k ∧ w 38 k ≤ 9) (hW : RM w (wallsM w)) (hp : 0 ≤ px ∧ px ≤ 4 * w 33 24 ∧ 0 ≤ py ∧ py ≤ 4 * w 33 25) : (-2 ≤ drG (gM w) (w 33 24) (w 33 25) (qM w) (wallsM w) px py ∧ drG (gM w) (w 33 24) (w 33 25) (qM w) (wallsM w) px py < 280) ∧ Cal mX8_dropOf [eR 33, (0, px), (0, py)] w (some (0, drG (gM w) (w 33 24) (w 33 25) (qM w) (wallsM w) px py)) w := by
  obtain ⟨⟨c1, c2, c3, c4, c5, c6, c7, c8, c9, c10⟩, c11, c12, c13⟩ := id hM
  have hp2 : 0 ≤ px ∧ px ≤ 56 ∧ 0 ≤ py ∧ py ≤ 40 := by omega
  obtain ⟨i1, i2, i3⟩ := y_X8_height w px py hM hsp hp2
  have eg : drG (gM w) (w 33 24) (w 33 25) (qM w) (wallsM w) px py = drQ (gM w) (w 33 24) (w 33 25) (qM w) (wallsM w) px py (htM w px py) := rfl
  rw [eg]
  revert i1 i2 i3
  generalize htM w px py = h
  intro i1 i2 i3
  by_cases h0 : 0 < h
  · obtain ⟨r0, d0, u0, k0⟩ := y_X8_dropBy0 w px py h hM hsp hW hp ⟨h0, i2.2⟩
    obtain ⟨r1, d1, u1, k1⟩ := y_X8_dropBy1 w px py h hM hsp hW hp ⟨h0, i2.2⟩
    obtain ⟨r2, d2, u2, k2⟩ := y_X8_dropBy2 w px py h hM hsp hW hp ⟨h0, i2.2⟩
    obtain ⟨r3, d3, u3, k3⟩ := y_X8_dropBy3 w px py h hM hsp hW hp ⟨h0, i2.2⟩
    unfold drQ
    rw [if_pos h0, dbQ_is d0, dbQ_is d1, dbQ_is d2, dbQ_is d3]
    refine ⟨by (repeat' split) <;> omega, Cal.of (by decide +kernel) (Nat.le_of_ble_eq_true rfl) (tX8_dropOf_0 w px py i3 ?_)⟩
    apply tX8_dropOf0_10 w _ _ _ (dd := r0) (by omega) (by omega) (fun _ => k0)
    rotate_left
    · intro _ e0
      rw [if_pos e0]
      exact ⟨rfl, rfl⟩
    · intro z; exact absurd h0 z
    intro _ e0
    rw [if_neg (not_not_intro e0)]
    apply tX8_dropOf1_10 w _ _ _ (dd := r1) (by omega) (by omega) (fun _ => k1)
    rotate_left
    · intro _ e1
      rw [if_pos e1]
      exact ⟨rfl, rfl⟩
    · intro z; exact absurd h0 z
    intro _ e1
    rw [if_neg (not_not_intro e1)]
    apply tX8_dropOf2_10 w _ _ _ (dd := r2) (by omega) (by omega) (fun _ => k2)
    rotate_left
    · intro _ e2
      rw [if_pos e2]
      exact ⟨rfl, rfl⟩
    · intro z; exact absurd h0 z
    intro _ e2
    rw [if_neg (not_not_intro e2)]
    apply tX8_dropOf3_10 w _ _ _ (dd := r3) (by omega) (by omega) (fun _ => k3)
    rotate_left
    · intro _ e3
      rw [if_pos e3]
      exact ⟨rfl, rfl⟩
    · intro z; exact absurd h0 z
    intro _ e3
    rw [if_neg (not_not_intro e3)]
    exact tX8_dropOf4_10 w _ _ _ (by omega) ⟨rfl, rfl⟩
  · unfold drQ
    rw [if_neg h0]
    refine ⟨by omega, Cal.of (by decide +kernel) (Nat.le_of_ble_eq_true rfl) (tX8_dropOf_0 w px py i3 ?_)⟩
    apply tX8_dropOf0_10 w _ _ _ (dd := 0) (by omega) (by omega) (fun z => absurd z h0)
    · intro z; exact absurd z h0
    · intro z; exact absurd z h0
    · intro _; exact ⟨rfl, rfl⟩
