theorem wAl_280 (g : Int → Int → Int) {W H : Nat} (hW : W ≤ 14) (hH : H ≤ 10) : 0 ≤ wAl g W H 4 0 0 ∧ wAl g W H 4 0 0 ≤ 280 := by
  have n0 : wS0 0 0 = 0 := rfl
  have c1 := wSd_bound g 0 W wS0 7 (by omega) H
  have c2 := wSd_bound g 1 H (wSd g 0 W wS0 H) 5 (by omega) W
  have c3 := wSd_bound g 2 W (wSd g 1 H (wSd g 0 W wS0 H) W) 7 (by omega) H
  have c4 := wSd_bound g 3 H (wSd g 2 W (wSd g 1 H (wSd g 0 W wS0 H) W) H) 5 (by omega) W
  show 0 ≤ wSd g 3 H (wSd g 2 W (wSd g 1 H (wSd g 0 W wS0 H) W) H) W 0 0 ∧ wSd g 3 H (wSd g 2 W (wSd g 1 H (wSd g 0 W wS0 H) W) H) W 0 0 ≤ 280
  omega
theorem y_X6_lengthOfSide (w : eW) (side : Int) (hB : HB w) (hR : RC w (wallsOf w)) (hs : 0 ≤ side ∧ side < 4) : Cal mX6_lengthOfSide [eR 13, (0, side)] w (some (0, rmI (gC w) side (w 2 0) (w 2 1))) w := by
  obtain ⟨⟨b1, b2, b3, b4, b5, b6⟩, b7, b8, b9⟩ := id hB
  have e := (ttl_all (gC w) (w 2 0).toNat (w 2 1).toNat side.toNat 4).1
  have hc := wAl_280 (gC w) (W := (w 2 0).toNat) (H := (w 2 1).toNat) (by omega) (by omega)
  have hb := (WB_all (g := gC w) (W := (w 2 0).toNat) (H := (w 2 1).toNat) (by omega) (by omega) 4 (Nat.le_refl _)).2
  rw [if_pos (by omega), Int.toNat_of_nonneg hs.1, Int.toNat_of_nonneg b1, Int.toNat_of_nonneg b3] at e
  rw [← e]
  obtain ⟨r1, r2, r3, r4⟩ := hR
  unfold wallsOf at r2 r3
  generalize wAl (gC w) (w 2 0).toNat (w 2 1).toNat 4 = S at *
  refine Cal.of (by decide +kernel) (Nat.le_of_ble_eq_true rfl) (tX6_lengthOfSide_0 w side ?_)
  have key := loop_up (P := fun i => Go mX6_lengthOfSide 4 [(0, eR 13), (1, (0, side)), (2, (0, sumI (fun k => if S 1 k = side then S 4 k else 0) 0 i)), (3, (0, i))] [] w (some (0, ttl S side)) w) 0 (S 0 0) ?_ ?_ 0 (by omega) (by omega)
  · rw [sumI_self] at key; exact key
  · apply tX6_lengthOfSide_4 w side _ _ (by omega) (by omega) (by omega)
    · intro z; omega
    · intro z; omega
    · intro z; omega
    · intro _; exact ⟨rfl, rfl⟩
  · intro i h1 h2 ih
    obtain ⟨q1, q2, q3, q4⟩ := r3 i h1 h2
    have hbi := hb i h1 h2
    rw [sumI_succ _ h1] at ih
    apply tX6_lengthOfSide_4 w side _ _ (by omega) (by omega) (by omega)
    · intro _; rw [Int.add_zero, q1]; omega
    · intro _ z
      rw [Int.add_zero, q1] at z
      rw [if_pos z] at ih
      rw [q4]; exact ih
    · intro _ z
      rw [Int.add_zero, q1] at z
      rw [if_neg z, Int.add_zero] at ih
      exact ih
    · intro z; omega
theorem y_X8_isWalled (w : eW) (x y side : Int) (hM : MB w) (hx2 : -2 ≤ x ∧ x ≤ 20 ∧ -2 ≤ y ∧ y ≤ 20) (hs : 0 ≤ side ∧ side < 4) : Cal mX8_isWalled [eR 33, (0, x), (0, y), (0, side)] w (some (0, wl1 (gM w) side x y)) w := by
  have hh : side = 0 ∨ side = 1 ∨ side = 2 ∨ side = 3 := by omega
  unfold wl1 wlI bxS byS
  simp only [gM_1]
  rcases hh with h | h | h | h <;> subst h
  · exact y_b_X8_isWalled0 w x y hM hx2
  · exact y_b_X8_isWalled1 w x y hM hx2
  · exact y_b_X8_isWalled2 w x y hM hx2
  · exact y_b_X8_isWalled3 w x y hM hx2
theorem y_X8_rimL (w : eW) (side : Int) (hM : MB w) (hs : 0 ≤ side ∧ side < 4) : Go mX8_rim 31 [(0, eR 33), (1, (0, side)), (2, (0, 0)), (3, (0, 0))] [] w (some (0, rmI (gM w) side (w 33 24) (w 33 25))) (eU (eU w 33 1 0) 33 2 (-1)) := by
  obtain ⟨⟨c1, c2, c3, c4, c5, c6, c7, c8, c9, c10⟩, c11, c12, c13⟩ := id hM
  have key := loop_up (P := fun y => Go mX8_rim 31 [(0, eR 33), (1, (0, side)), (2, (0, rmI (gM w) side (w 33 24) y)), (3, (0, y))] [] w (some (0, rmI (gM w) side (w 33 24) (w 33 25))) (eU (eU w 33 1 0) 33 2 (-1))) 0 (w 33 25) ?_ ?_ 0 (by omega) (by omega)
  · unfold rmI at key
    rw [sumI_self] at key
    exact key
  · apply tX8_rim_31 w side _ _ hM (by omega)
    · intro z; omega
    · intro _; exact ⟨rfl, rfl⟩
  · intro y h1 h2 ih
    have e : rmI (gM w) side (w 33 24) (y + 1) = rmI (gM w) side (w 33 24) y + sumI (fun x => wl1 (gM w) side x y) 0 (w 33 24) := sumI_succ _ h1
    rw [e] at ih
    have inner := loop_up (P := fun x => Go mX8_rim 42 [(0, eR 33), (1, (0, side)), (2, (0, rmI (gM w) side (w 33 24) y + sumI (fun x => wl1 (gM w) side x y) 0 x)), (3, (0, y)), (4, (0, x))] [] w (some (0, rmI (gM w) side (w 33 24) (w 33 25))) (eU (eU w 33 1 0) 33 2 (-1))) 0 (w 33 24) ?_ ?_ 0 (by omega) (by omega)
    · rw [sumI_self, Int.add_zero] at inner
      apply tX8_rim_31 w side _ _ hM (by omega)
      · intro _; exact inner
      · intro z; omega
    · apply tX8_rim_42 w side _ _ _ (sl := 0) hM (by omega) (by omega) (fun z => absurd z (by omega))
      · intro z; omega
      · intro z; omega
      · intro _; exact ih
    · intro x g1 g2 ihx
      rw [sumI_succ _ g1] at ihx
      have hw : wl1 (gM w) side x y = 0 ∨ wl1 (gM w) side x y = 1 := by unfold wl1; split <;> omega
      apply tX8_rim_42 w side _ _ _ hM (by omega) hw (fun _ => y_X8_isWalled w x y side hM (by omega) hs)
      · intro _ z; rw [z] at ihx; rw [Int.add_assoc]; exact ihx
      · intro _ z; rw [show wl1 (gM w) side x y = 1 by omega] at ihx; rw [Int.add_assoc]; exact ihx
      · intro z; omega
/-- what a look for a height changes in the class -/
def FrH (w w0 : eW) : Prop := Fr [16, 17, 18, 19, 20] w w0 ∧ (∀ i, i ≠ 9 → w0 16 i = w 16 i) ∧ ((w0 16 9 = 0 ∨ RY w0) ∧ (RY w → RY w0)) ∧ ∀ p, RR w p → RR w0 p
abbrev MK (w : eW) : Prop := ∀ k, 0 ≤ k → k < w 2 2 → w 5 (2 * k) ≤ 4 * w 2 0 ∧ w 5 (2 * k + 1) ≤ 4 * w 2 1
noncomputable abbrev htK (w : eW) : Int → Int := fun k => htC w (w 5 (2 * k)) (w 5 (2 * k + 1))
theorem htK_b (w : eW) (hH : HH w) (hmk : MK w) {k : Int} (hk : 0 ≤ k ∧ k < w 2 2) : 0 ≤ htK w k ∧ htK w k ≤ 200000 := by
  obtain ⟨⟨b1, b2, b3, b4, b5, b6⟩, b7, b8, b9⟩ := id hH.1
  have m := hmk k hk.1 hk.2
  have m1 := b9 (2 * k) (by omega) (by omega)
  have m2 := b9 (2 * k + 1) (by omega) (by omega)
  exact (htC_is hH (by omega)).2
theorem y_X7_heightOfMark (w w0 : eW) (k : Int) (hH : HH w) (hmk : MK w) (hF : FrH w w0) (hk : 0 ≤ k ∧ k < w 2 2) : ∃ w1, Cal mX7_heightOfMark [eR 0, (0, k)] w0 (some (0, htK w k)) w1 ∧ FrH w w1 := by
  obtain ⟨⟨b1, b2, b3, b4, b5, b6⟩, b7, b8, b9⟩ := id hH.1
  obtain ⟨f1, f2, f3, f4⟩ := hF
  have m := hmk k hk.1 hk.2
  have m1 := b9 (2 * k) (by omega) (by omega)
  have m2 := b9 (2 * k + 1) (by omega) (by omega)
  have e2 : w0 2 = w 2 := f1 2 (by decide)
  have e5 : w0 5 = w 5 := f1 5 (by decide)
  have hH0 : HH w0 := HH_fr f1 hH (by decide)
  obtain ⟨w1, a1, a2, a3, a4, a5, a6, a7, -⟩ := y_X5_heightOf w0 (w 5 (2 * k)) (w 5 (2 * k + 1)) hH0 f3.1 (by rw [e2]; omega)
  rw [htC_fr f1 (by decide)] at a1
  refine ⟨w1, Cal.of (by decide +kernel) (Nat.le_of_ble_eq_true rfl) ?_, f1.tr a2, fun i hi => (a3 i hi).trans (f2 i hi), ⟨Or.inr a4, fun _ => a4⟩, fun p q => a7 p (f4 p q)⟩
  apply tX7_heightOfMark_0 w0 k hH0.1 (by omega) (by rw [e5, Int.add_zero]; exact a1)
  exact ⟨rfl, rfl⟩
theorem y_X7_countMarksAhead (w w0 : eW) (k : Int) (hH : HH w) (hmk : MK w) (hF : FrH w w0) (hk : 0 ≤ k ∧ k < w 2 2) : ∃ w1, Cal mX7_countMarksAhead [eR 0, (0, k)] w0 (some (0, ahP (htK w) (w 2 2) k)) w1 ∧ FrH w w1 := by
  obtain ⟨⟨b1, b2, b3, b4, b5, b6⟩, b7, b8, b9⟩ := id hH.1
  obtain ⟨wa, a1, a2⟩ := y_X7_heightOfMark w w0 k hH hmk hF hk
  have hv := htK_b w hH hmk hk
  have key := loop_up (P := fun o => ∀ w0, FrH w w0 → ∃ w1, Go mX7_countMarksAhead 11 [(0, eR 0), (1, (0, k)), (2, (0, htK w k)), (3, (0, ahP (htK w) o k)), (4, (0, o))] [] w0 (some (0, ahP (htK w) (w 2 2) k)) w1 ∧ FrH w w1) 0 (w 2 2) ?_ ?_ 0 (by omega) (by omega) wa a2
  · obtain ⟨w1, k1, k2⟩ := key
    have e0 : ahP (htK w) 0 k = 0 := sumI_self _ _
    rw [e0] at k1
    exact ⟨w1, Cal.of (by decide +kernel) (Nat.le_of_ble_eq_true rfl) (tX7_countMarksAhead_0 w0 k a1 k1), k2⟩
  · intro w0 f0
    have e2 : w0 2 = w 2 := f0.1 2 (by decide)
    refine ⟨w0, ?_, f0⟩
    apply tX7_countMarksAhead_11 w0 k _ _ _ (w1 := w0) (hh := 0) (HB_fr f0.1 hH.1 (by decide)) (by omega) (by omega) (by omega) (by omega) (fun z => absurd z (by rw [e2]; omega))
    · intro z; rw [e2] at z; omega
    · intro z; rw [e2] at z; omega
    · intro z; rw [e2] at z; omega
    · intro z; rw [e2] at z; omega
    · intro _; exact ⟨rfl, rfl⟩
  · intro o ho1 ho2 ih w0 f0
    have e2 : w0 2 = w 2 := f0.1 2 (by decide)
    obtain ⟨w1, c1, c2⟩ := y_X7_heightOfMark w w0 o hH hmk f0 ⟨ho1, ho2⟩
    have hvo := htK_b w hH hmk (k := o) ⟨ho1, ho2⟩
    obtain ⟨w9, k1, k2⟩ := ih w1 c2
    rw [ahP_succ ho1] at k1
    refine ⟨w9, ?_, k2⟩
    apply tX7_countMarksAhead_11 w0 k _ _ _ (HB_fr f0.1 hH.1 (by decide)) (by omega) (by omega) (by omega) (by omega) (fun _ => c1)
    · intro _ z; rw [bI_1 (Or.inl z)] at k1; exact k1
    · intro _ _ z1 z2; rw [bI_1 (Or.inr ⟨z1, z2⟩)] at k1; exact k1
    · intro _ z0 z1 z2; rw [bI_0 (fun q => q.elim z0 (fun q => z2 q.2)), Int.add_zero] at k1; exact k1
    · intro _ z0 z1; rw [bI_0 (fun q => q.elim z0 (fun q => z1 q.1)), Int.add_zero] at k1; exact k1
    · intro z; rw [e2] at z; omega
theorem y_X7_rankedL (w : eW) (i : Int) (hH : HH w) (hmk : MK w) (hz : w 16 9 = 0 ∨ RY w) (hi : 0 ≤ i ∧ i < w 2 2) : ∃ f w1, isRk (htK w) (w 2 2) i f ∧ FrH w w1 ∧ Go mX7_ranked 21 [(0, eR 0), (1, (0, i)), (2, (0, 0)), (3, (0, 0))] [] w (some (0, f)) (eU w1 0 2 0) := by
  obtain ⟨⟨b1, b2, b3, b4, b5, b6⟩, b7, b8, b9⟩ := id hH.1
  refine loop_up (P := fun k => ∀ w0 f, FrH w w0 → rkI (htK w) (w 2 2) i 0 k f → ∃ f' w1, isRk (htK w) (w 2 2) i f' ∧ FrH w w1 ∧ Go mX7_ranked 21 [(0, eR 0), (1, (0, i)), (2, (0, f)), (3, (0, k))] [] w0 (some (0, f')) (eU w1 0 2 0)) 0 (w 2 2) ?_ ?_ 0 (by omega) (by omega) w 0 ⟨Fr.rf, fun _ _ => rfl, ⟨hz, id⟩, fun _ q => q⟩ (rkI_0 _ _ _ _)
  · intro w0 f f0 hf
    have e2 : w0 2 = w 2 := f0.1 2 (by decide)
    refine ⟨f, w0, rkI_end hi hf, f0, ?_⟩
    apply tX7_ranked_21 w0 i f _ (w1 := w0) (hh := 0) (HB_fr f0.1 hH.1 (by decide)) (by omega) (by omega) (by omega) (fun z => absurd z (by rw [e2]; omega))
    · intro z; rw [e2] at z; omega
    · intro z; rw [e2] at z; omega
    · intro _; exact ⟨rfl, rfl⟩
  · intro k hk1 hk2 ih w0 f f0 hf
    have e2 : w0 2 = w 2 := f0.1 2 (by decide)
    obtain ⟨w1, c1, c2⟩ := y_X7_countMarksAhead w w0 k hH hmk f0 ⟨hk1, hk2⟩
    have hb := ahP_sb (ht := htK w) (k := k) (o := w 2 2) (by omega)
    by_cases hc : ahP (htK w) (w 2 2) k = i
    · obtain ⟨f', w9, g1, g2, g3⟩ := ih w1 k c2 (rkI_hit (f := f) hk1 hc)
      refine ⟨f', w9, g1, g2, ?_⟩
      apply tX7_ranked_21 w0 i f _ (HB_fr f0.1 hH.1 (by decide)) (by omega) (by omega) (by omega) (fun _ => c1)
      · intro _ _; exact g3
      · intro _ z; exact absurd hc z
      · intro z; rw [e2] at z; omega
    · obtain ⟨f', w9, g1, g2, g3⟩ := ih w1 f c2 (rkI_miss hf hc)
      refine ⟨f', w9, g1, g2, ?_⟩
      apply tX7_ranked_21 w0 i f _ (HB_fr f0.1 hH.1 (by decide)) (by omega) (by omega) (by omega) (fun _ => c1)
      · intro _ z; exact absurd z hc
      · intro _ _; exact g3
      · intro z; rw [e2] at z; omega
