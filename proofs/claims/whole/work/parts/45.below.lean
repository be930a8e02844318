noncomputable def dbQ (g : Int → Int → Int) (W H : Int) (q : Int → Int) (S : eW) (px py h s : Int) : Int := Classical.epsilon (isDb g W H q S px py h s)
theorem dbQ_is {g : Int → Int → Int} {W H : Int} {q : Int → Int} {S : eW} {px py h s r : Int} (h1 : isDb g W H q S px py h s r) : dbQ g W H q S px py h s = r := isDb_one (Classical.epsilon_spec ⟨r, h1⟩) h1
/-- the wall to which a drop runs -/
noncomputable def drQ (g : Int → Int → Int) (W H : Int) (q : Int → Int) (S : eW) (px py h : Int) : Int := if 0 < h then (if ¬ dbQ g W H q S px py h 0 = -1 then dbQ g W H q S px py h 0 else if ¬ dbQ g W H q S px py h 1 = -1 then dbQ g W H q S px py h 1 else if ¬ dbQ g W H q S px py h 2 = -1 then dbQ g W H q S px py h 2 else if ¬ dbQ g W H q S px py h 3 = -1 then dbQ g W H q S px py h 3 else -2) else -2
theorem isDb_no {g : Int → Int → Int} {W H : Int} {q : Int → Int} {S : eW} {px py h s r : Int} (h1 : isDb g W H q S px py h s r) (hn : ¬ slP g W H q px py h s) : r = -1 := by
  rcases h1 with ⟨e1, e2⟩ | ⟨x, y, e1, e2, e3, e4⟩
  · exact e1
  · obtain ⟨x1, x2, y1, y2, k1, k2, k3⟩ := e1
    exact absurd ⟨x, y, x1, x2, y1, y2, k1, k3⟩ hn
theorem sl_bits {b0 b1 b2 b3 : Int} (h0 : b0 = 0 ∨ b0 = 1) (h1 : b1 = 0 ∨ b1 = 1) (h2 : b2 = 0 ∨ b2 = 1) (h3 : b3 = 0 ∨ b3 = 1) : eAnd ((b0 + 2 * b1 + 4 * b2 + 8 * b3) / 2 ^ (0 : Int).toNat) 1 = b0 ∧ eAnd ((b0 + 2 * b1 + 4 * b2 + 8 * b3) / 2 ^ (1 : Int).toNat) 1 = b1 ∧ eAnd ((b0 + 2 * b1 + 4 * b2 + 8 * b3) / 2 ^ (2 : Int).toNat) 1 = b2 ∧ eAnd ((b0 + 2 * b1 + 4 * b2 + 8 * b3) / 2 ^ (3 : Int).toNat) 1 = b3 := by
  rcases h0 with h0 | h0 <;> rcases h1 with h1 | h1 <;> rcases h2 with h2 | h2 <;> rcases h3 with h3 | h3 <;> subst h0 <;> subst h1 <;> subst h2 <;> subst h3 <;> decide
theorem y_X5_wallBelow (w : eW) (px py h : Int) (hH : HH w) (hY : RY w) (hW : RC w (wallsOf w)) (hp : 0 ≤ px ∧ px ≤ 4 * w 2 0 ∧ 0 ≤ py ∧ py ≤ 4 * w 2 1) (hi : isHt (gC w) (w 2 0) (w 2 1) (qC w) px py h) (hh : 0 ≤ h ∧ h ≤ 200000) : (-2 ≤ drQ (gC w) (w 2 0) (w 2 1) (qC w) (wallsOf w) px py h ∧ drQ (gC w) (w 2 0) (w 2 1) (qC w) (wallsOf w) px py h < 280) ∧ Cal mX5_wallBelow [eR 16, (0, px), (0, py), (0, h), (0, slQ (gC w) (w 2 0) (w 2 1) (qC w) px py h)] w (some (0, drQ (gC w) (w 2 0) (w 2 1) (qC w) (wallsOf w) px py h)) w := by
  have hsb := slQ_b (gC w) (w 2 0) (w 2 1) (qC w) px py h
  rcases Int.lt_or_le 0 h with h0 | h0
  · have B0 := bI_b (slP (gC w) (w 2 0) (w 2 1) (qC w) px py h 0)
    have B1 := bI_b (slP (gC w) (w 2 0) (w 2 1) (qC w) px py h 1)
    have B2 := bI_b (slP (gC w) (w 2 0) (w 2 1) (qC w) px py h 2)
    have B3 := bI_b (slP (gC w) (w 2 0) (w 2 1) (qC w) px py h 3)
    obtain ⟨s0, s1, s2, s3⟩ := sl_bits B0 B1 B2 B3
    have es : slQ (gC w) (w 2 0) (w 2 1) (qC w) px py h = bI (slP (gC w) (w 2 0) (w 2 1) (qC w) px py h 0) + 2 * bI (slP (gC w) (w 2 0) (w 2 1) (qC w) px py h 1) + 4 * bI (slP (gC w) (w 2 0) (w 2 1) (qC w) px py h 2) + 8 * bI (slP (gC w) (w 2 0) (w 2 1) (qC w) px py h 3) := by unfold slQ; rw [if_pos h0]
    rw [← es] at s0 s1 s2 s3
    revert hsb s0 s1 s2 s3
    generalize slQ (gC w) (w 2 0) (w 2 1) (qC w) px py h = set
    intro hsb s0 s1 s2 s3
    obtain ⟨r0, d0, u0, c0⟩ := y_touch0 w px py h hH hY hW hp hi ⟨h0, hh.2⟩
    have q0 := dbQ_is d0
    have g0 : ∀ (r : Option eV) (w9 : eW), (r0 = -1 → Go mX5_wallBelow 3 [(0, eR 16), (1, (0, px)), (2, (0, py)), (3, (0, h)), (4, (0, set)), (5, (0, 0 + 1))] [] w r w9) → (¬ r0 = -1 → r = some (0, r0) ∧ w9 = w) → Go mX5_wallBelow 3 [(0, eR 16), (1, (0, px)), (2, (0, py)), (3, (0, h)), (4, (0, set)), (5, (0, 0))] [] w r w9 := by
      intro r w9 k1 k2
      by_cases hs : slP (gC w) (w 2 0) (w 2 1) (qC w) px py h 0
      · apply tX5_wallBelow0_3 w px py h set (if r0 = -1 then -2 else r0) hsb (fun _ => c0) (by split <;> omega)
        · intro _ z
          refine k1 ?_
          split at z <;> omega
        · intro _ z
          by_cases hr : r0 = -1
          · rw [if_pos hr] at z; exact absurd rfl z
          · rw [if_neg hr]; exact k2 hr
        · intro z; rw [s0, bI_1 hs] at z; exact absurd rfl z
      · have e := isDb_no d0 hs
        rw [bI_0 hs] at s0
        apply tX5_wallBelow0_3 w px py h set 0 hsb (fun z => by omega) (by decide)
        · intro z; omega
        · intro z; omega
        · intro _; exact k1 e
    obtain ⟨r1, d1, u1, c1⟩ := y_touch1 w px py h hH hY hW hp hi ⟨h0, hh.2⟩
    have q1 := dbQ_is d1
    have g1 : ∀ (r : Option eV) (w9 : eW), (r1 = -1 → Go mX5_wallBelow 3 [(0, eR 16), (1, (0, px)), (2, (0, py)), (3, (0, h)), (4, (0, set)), (5, (0, 1 + 1))] [] w r w9) → (¬ r1 = -1 → r = some (0, r1) ∧ w9 = w) → Go mX5_wallBelow 3 [(0, eR 16), (1, (0, px)), (2, (0, py)), (3, (0, h)), (4, (0, set)), (5, (0, 1))] [] w r w9 := by
      intro r w9 k1 k2
      by_cases hs : slP (gC w) (w 2 0) (w 2 1) (qC w) px py h 1
      · apply tX5_wallBelow1_3 w px py h set (if r1 = -1 then -2 else r1) hsb (fun _ => c1) (by split <;> omega)
        · intro _ z
          refine k1 ?_
          split at z <;> omega
        · intro _ z
          by_cases hr : r1 = -1
          · rw [if_pos hr] at z; exact absurd rfl z
          · rw [if_neg hr]; exact k2 hr
        · intro z; rw [s1, bI_1 hs] at z; exact absurd rfl z
      · have e := isDb_no d1 hs
        rw [bI_0 hs] at s1
        apply tX5_wallBelow1_3 w px py h set 0 hsb (fun z => by omega) (by decide)
        · intro z; omega
        · intro z; omega
        · intro _; exact k1 e
    obtain ⟨r2, d2, u2, c2⟩ := y_touch2 w px py h hH hY hW hp hi ⟨h0, hh.2⟩
    have q2 := dbQ_is d2
    have g2 : ∀ (r : Option eV) (w9 : eW), (r2 = -1 → Go mX5_wallBelow 3 [(0, eR 16), (1, (0, px)), (2, (0, py)), (3, (0, h)), (4, (0, set)), (5, (0, 2 + 1))] [] w r w9) → (¬ r2 = -1 → r = some (0, r2) ∧ w9 = w) → Go mX5_wallBelow 3 [(0, eR 16), (1, (0, px)), (2, (0, py)), (3, (0, h)), (4, (0, set)), (5, (0, 2))] [] w r w9 := by
      intro r w9 k1 k2
      by_cases hs : slP (gC w) (w 2 0) (w 2 1) (qC w) px py h 2
      · apply tX5_wallBelow2_3 w px py h set (if r2 = -1 then -2 else r2) hsb (fun _ => c2) (by split <;> omega)
        · intro _ z
          refine k1 ?_
          split at z <;> omega
        · intro _ z
          by_cases hr : r2 = -1
          · rw [if_pos hr] at z; exact absurd rfl z
          · rw [if_neg hr]; exact k2 hr
        · intro z; rw [s2, bI_1 hs] at z; exact absurd rfl z
      · have e := isDb_no d2 hs
        rw [bI_0 hs] at s2
        apply tX5_wallBelow2_3 w px py h set 0 hsb (fun z => by omega) (by decide)
        · intro z; omega
        · intro z; omega
        · intro _; exact k1 e
    obtain ⟨r3, d3, u3, c3⟩ := y_touch3 w px py h hH hY hW hp hi ⟨h0, hh.2⟩
    have q3 := dbQ_is d3
    have g3 : ∀ (r : Option eV) (w9 : eW), (r3 = -1 → Go mX5_wallBelow 3 [(0, eR 16), (1, (0, px)), (2, (0, py)), (3, (0, h)), (4, (0, set)), (5, (0, 3 + 1))] [] w r w9) → (¬ r3 = -1 → r = some (0, r3) ∧ w9 = w) → Go mX5_wallBelow 3 [(0, eR 16), (1, (0, px)), (2, (0, py)), (3, (0, h)), (4, (0, set)), (5, (0, 3))] [] w r w9 := by
      intro r w9 k1 k2
      by_cases hs : slP (gC w) (w 2 0) (w 2 1) (qC w) px py h 3
      · apply tX5_wallBelow3_3 w px py h set (if r3 = -1 then -2 else r3) hsb (fun _ => c3) (by split <;> omega)
        · intro _ z
          refine k1 ?_
          split at z <;> omega
        · intro _ z
          by_cases hr : r3 = -1
          · rw [if_pos hr] at z; exact absurd rfl z
          · rw [if_neg hr]; exact k2 hr
        · intro z; rw [s3, bI_1 hs] at z; exact absurd rfl z
      · have e := isDb_no d3 hs
        rw [bI_0 hs] at s3
        apply tX5_wallBelow3_3 w px py h set 0 hsb (fun z => by omega) (by decide)
        · intro z; omega
        · intro z; omega
        · intro _; exact k1 e
    unfold drQ
    rw [if_pos h0, q0, q1, q2, q3]
    refine ⟨by (repeat' split) <;> omega, Cal.of (by decide +kernel) (Nat.le_of_ble_eq_true rfl) (tX5_wallBelow_0 w px py h set ?_)⟩
    refine g0 _ _ (fun e0 => ?_) (fun e0 => by rw [if_pos e0]; exact ⟨rfl, rfl⟩)
    rw [if_neg (by omega)]
    refine g1 _ _ (fun e1 => ?_) (fun e1 => by rw [if_pos e1]; exact ⟨rfl, rfl⟩)
    rw [if_neg (by omega)]
    refine g2 _ _ (fun e2 => ?_) (fun e2 => by rw [if_pos e2]; exact ⟨rfl, rfl⟩)
    rw [if_neg (by omega)]
    refine g3 _ _ (fun e3 => ?_) (fun e3 => by rw [if_pos e3]; exact ⟨rfl, rfl⟩)
    rw [if_neg (by omega)]
    exact tX5_wallBelow4_3 w px py h set ⟨rfl, rfl⟩
  · have es : slQ (gC w) (w 2 0) (w 2 1) (qC w) px py h = 0 := by unfold slQ; rw [if_neg (by omega)]
    have ed : drQ (gC w) (w 2 0) (w 2 1) (qC w) (wallsOf w) px py h = -2 := by unfold drQ; rw [if_neg (by omega)]
    rw [es, ed]
    refine ⟨by omega, Cal.of (by decide +kernel) (Nat.le_of_ble_eq_true rfl) (tX5_wallBelow_0 w px py h 0 ?_)⟩
    apply tX5_wallBelow0_3 w px py h 0 0 (by decide) (fun z => absurd z (by decide)) (by decide) (fun z => absurd z (by decide)) (fun z => absurd z (by decide)) (fun _ => ?_)
    apply tX5_wallBelow1_3 w px py h 0 0 (by decide) (fun z => absurd z (by decide)) (by decide) (fun z => absurd z (by decide)) (fun z => absurd z (by decide)) (fun _ => ?_)
    apply tX5_wallBelow2_3 w px py h 0 0 (by decide) (fun z => absurd z (by decide)) (by decide) (fun z => absurd z (by decide)) (fun z => absurd z (by decide)) (fun _ => ?_)
    apply tX5_wallBelow3_3 w px py h 0 0 (by decide) (fun z => absurd z (by decide)) (by decide) (fun z => absurd z (by decide)) (fun z => absurd z (by decide)) (fun _ => ?_)
    exact tX5_wallBelow4_3 w px py h 0 ⟨rfl, rfl⟩
