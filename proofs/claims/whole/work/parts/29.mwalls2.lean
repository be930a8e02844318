theorem FrW.tr {w w1 w2 : eW} (h1 : FrW w w1) (h2 : FrW w1 w2) : FrW w w2 := ⟨h1.1.tr h2.1, fun i hi => (h2.2 i hi).trans (h1.2 i hi)⟩
theorem FrW.begin {w w0 : eW} (h : FrW w w0) (side x y : Int) : FrW w (wX8_begins w0 side x y) := by
  refine ⟨fun k hk => ?_, fun i hi => ?_⟩
  · have hk2 := hk
    simp only [List.mem_cons, List.not_mem_nil, or_false, not_or] at hk2
    unfold wX8_begins
    rw [eU_ne hk2.1, eU_ne hk2.2.2.2.2, eU_ne hk2.2.2.2.1, eU_ne hk2.2.2.1, eU_ne hk2.2.1]
    exact h.1 k hk
  · unfold wX8_begins
    rw [eU_get, if_neg hi]
    exact h.2 i hi
theorem FrW.len {w w0 : eW} (h : FrW w w0) (i v : Int) : FrW w (eU w0 44 i v) := by
  refine ⟨h.1.put (by decide), fun j hj => ?_⟩
  rw [eU_ne (by decide)]
  exact h.2 j hj
theorem gM_fr {w w0 : eW} (h : FrW w w0) : gM w0 = gM w := by
  funext x y
  unfold gM
  simp only [h.ins]
theorem y_mlane0 (w : eW) (hM : MB w) (lane : Int) (hl : 0 ≤ lane ∧ lane < w 33 25) (S : eW) (hR : RM w S) (hc : 0 ≤ S 0 0) (hev : ∀ b : Int, 0 ≤ b → b ≤ w 33 24 → wLn (gM w) 0 lane S b.toNat 0 0 ≤ 280) : ∃ w1, FrW w w1 ∧ RM w1 (wLn (gM w) 0 lane S (w 33 24).toNat) ∧ ∀ (r : Option eV) (w9 : eW), Go mX8_laysWalls 26 [(0, eR 33), (1, (0, 0)), (2, (0, 1)), (3, (0, lane + 1))] [] w1 r w9 → Go mX8_laysWalls 51 [(0, eR 33), (1, (0, 0)), (2, (0, 1)), (3, (0, lane)), (4, (0, 0)), (5, (0, 0))] [] w r w9 := by
  obtain ⟨⟨c1, c2, c3, c4, c5, c6, c7, c8, c9, c10⟩, c11, c12, c13⟩ := id hM
  have key := loop_up (P := fun k => ∀ w0, FrW w w0 → RM w0 (wLn (gM w) 0 lane S k.toNat) → ∃ w1, FrW w w1 ∧ RM w1 (wLn (gM w) 0 lane S (w 33 24).toNat) ∧ ∀ (r : Option eV) (w9 : eW), Go mX8_laysWalls 26 [(0, eR 33), (1, (0, 0)), (2, (0, 1)), (3, (0, lane + 1))] [] w1 r w9 → Go mX8_laysWalls 51 [(0, eR 33), (1, (0, 0)), (2, (0, 1)), (3, (0, lane)), (4, (0, if wasP (gM w) 0 lane k then 1 else 0)), (5, (0, k))] [] w0 r w9) 0 (w 33 24) ?_ ?_ 0 (by omega) (by omega) w FrW.rf hR
  · rw [if_neg (fun q => absurd q.1 (by decide))] at key
    exact key
  · intro w0 hF hR0
    have hM0 := hF.mb hM
    have e24 : w0 33 24 = w 33 24 := hF.2 24 (by decide)
    have e25 : w0 33 25 = w 33 25 := hF.2 25 (by decide)
    obtain ⟨n1, n2, n3⟩ := wLn_bound (gM w) 0 lane S (w 33 24).toNat
    rw [Int.toNat_of_nonneg (by omega)] at n2 n3
    have hev1 := hev (w 33 24) (by omega) (by omega)
    have hcnt := hR0.1
    refine ⟨w0, hF, hR0, fun r w9 h => ?_⟩
    apply tX8_laysWalls0_51 w0 _ _ _ hM0 (by omega) (by omega) (by omega)
    · by_cases hp : wasP (gM w) 0 lane (w 33 24)
      · rw [if_pos hp]; exact Or.inr ⟨rfl, by have := n3 hp; omega⟩
      · rw [if_neg hp]; exact Or.inl rfl
    all_goals (intros; first | with_reducible exact h | (exfalso; omega))
  · intro k hk1 hk2 ih w0 hF hR0
    have hM0 := hF.mb hM
    have e24 : w0 33 24 = w 33 24 := hF.2 24 (by decide)
    have e25 : w0 33 25 = w 33 25 := hF.2 25 (by decide)
    obtain ⟨n1, n2, n3⟩ := wLn_bound (gM w) 0 lane S k.toNat
    rw [Int.toNat_of_nonneg hk1] at n2 n3
    have hev1 := hev k hk1 (by omega)
    have hcnt := hR0.1
    have hX : pX 0 lane k = k := by unfold pX; simp
    have hY : pY 0 lane k = lane := by unfold pY; simp
    have hbx : bxS k 0 = k := by unfold bxS; simp
    have hby : byS lane 0 = (lane - 1) := by unfold byS; simp
    have hwl : wlI (gM w) 0 (pX 0 lane k) (pY 0 lane k) ↔ (insM w0 k lane ∧ ¬ insM w0 k (lane - 1)) := by
      unfold wlI
      rw [hX, hY, hbx, hby, gM_1, gM_1, hF.ins, hF.ins]
    have hnext : wasP (gM w) 0 lane (k + 1) ↔ wlI (gM w) 0 (pX 0 lane k) (pY 0 lane k) := by
      unfold wasP
      rw [show k + 1 - 1 = k by omega]
      exact ⟨fun q => q.2, fun q => ⟨by omega, q⟩⟩
    have hin : (if wasP (gM w) 0 lane k then (1 : Int) else 0) = 0 ∨ ((if wasP (gM w) 0 lane k then (1 : Int) else 0) = 1 ∧ 1 ≤ w0 33 33) := by
      by_cases hp : wasP (gM w) 0 lane k
      · rw [if_pos hp]; exact Or.inr ⟨rfl, by have := n3 hp; omega⟩
      · rw [if_neg hp]; exact Or.inl rfl
    rw [wLn_next _ _ _ _ hk1] at ih
    by_cases hl1 : wlI (gM w) 0 (pX 0 lane k) (pY 0 lane k)
    · have hyes := hwl.mp hl1
      by_cases hp : wasP (gM w) 0 lane k
      · obtain ⟨w1, i1, i2, i3⟩ := ih (eU w0 44 (w0 33 33 - 1) (w0 44 (w0 33 33 - 1) + 1)) (hF.len _ _) (by
          unfold wCell
          rw [if_pos hl1, if_pos hp, hX, hY]
          exact RM_len hR0 (by have := n3 hp; omega) _ _ _)
        rw [if_pos (hnext.mpr hl1)] at i3
        refine ⟨w1, i1, i2, fun r w9 h => ?_⟩
        have hfin := i3 r w9 h
        rw [if_pos hp] at hin ⊢
        apply tX8_laysWalls0_51 w0 _ _ _ hM0 (by omega) (by omega) (by omega) hin
        all_goals (intros; first | (exfalso; omega) | contradiction | (rw [if_pos hyes]; with_reducible exact hfin))
      · obtain ⟨w1, i1, i2, i3⟩ := ih (wX8_begins w0 0 k lane) (hF.begin _ _ _) (by
          unfold wCell
          rw [if_pos hl1, if_neg hp, hX, hY]
          exact RM_begin hR0 (by omega) _ _ _)
        rw [if_pos (hnext.mpr hl1)] at i3
        refine ⟨w1, i1, i2, fun r w9 h => ?_⟩
        have hfin := i3 r w9 h
        rw [if_neg hp] at hin ⊢
        apply tX8_laysWalls0_51 w0 _ _ _ hM0 (by omega) (by omega) (by omega) hin
        all_goals (intros; first | (exfalso; omega) | contradiction | (rw [if_pos hyes]; with_reducible exact hfin))
    · obtain ⟨w1, i1, i2, i3⟩ := ih w0 hF (by unfold wCell; rw [if_neg hl1]; exact hR0)
      rw [if_neg (mt hnext.mp hl1)] at i3
      refine ⟨w1, i1, i2, fun r w9 h => ?_⟩
      have hfin := i3 r w9 h
      have hno := mt hwl.mpr hl1
      apply tX8_laysWalls0_51 w0 _ _ _ hM0 (by omega) (by omega) (by omega) hin
      all_goals (intros; first | contradiction | (rw [if_neg hno]; with_reducible exact hfin) | (exfalso; omega))
theorem y_mside0 (w : eW) (hM : MB w) (S : eW) (hc : 0 ≤ S 0 0 ∧ S 0 0 ≤ 0) (hR : RM w S) : ∃ w1, FrW w w1 ∧ RM w1 (wSd (gM w) 0 (w 33 24).toNat S (w 33 25).toNat) ∧ ∀ (r : Option eV) (w9 : eW), Go mX8_laysWalls 26 [(0, eR 33), (1, (0, 1)), (2, (0, 0)), (3, (0, 0))] [] w1 r w9 → Go mX8_laysWalls 26 [(0, eR 33), (1, (0, 0)), (2, (0, 1)), (3, (0, 0))] [] w r w9 := by
  obtain ⟨⟨c1, c2, c3, c4, c5, c6, c7, c8, c9, c10⟩, c11, c12, c13⟩ := id hM
  refine loop_up (P := fun k => ∀ w0, FrW w w0 → RM w0 (wSd (gM w) 0 (w 33 24).toNat S k.toNat) → ∃ w1, FrW w w1 ∧ RM w1 (wSd (gM w) 0 (w 33 24).toNat S (w 33 25).toNat) ∧ ∀ (r : Option eV) (w9 : eW), Go mX8_laysWalls 26 [(0, eR 33), (1, (0, 1)), (2, (0, 0)), (3, (0, 0))] [] w1 r w9 → Go mX8_laysWalls 26 [(0, eR 33), (1, (0, 0)), (2, (0, 1)), (3, (0, k))] [] w0 r w9) 0 (w 33 25) ?_ ?_ 0 (by omega) (by omega) w FrW.rf hR
  · intro w0 hF hR0
    have hM0 := hF.mb hM
    have e24 : w0 33 24 = w 33 24 := hF.2 24 (by decide)
    have e25 : w0 33 25 = w 33 25 := hF.2 25 (by decide)
    refine ⟨w0, hF, hR0, fun r w9 h => ?_⟩
    apply tX8_laysWalls0_26 w0 _ hM0 (by omega)
    · intro h; omega
    · intro _; exact h
  · intro k hk1 hk2 ih w0 hF hR0
    have hM0 := hF.mb hM
    have e24 : w0 33 24 = w 33 24 := hF.2 24 (by decide)
    have e25 : w0 33 25 = w 33 25 := hF.2 25 (by decide)
    obtain ⟨q1, q2⟩ := wSd_bound (gM w) 0 (w 33 24).toNat S 7 (by omega) k.toNat
    have hk3 : (k.toNat : Int) = k := Int.toNat_of_nonneg hk1
    rw [hk3] at q2
    have eN : (w0 33 24) = w 33 24 := e24
    have hg : gM w0 = gM w := gM_fr hF
    obtain ⟨w1, g1, g2, g3⟩ := y_mlane0 w0 hM0 k (by omega) (wSd (gM w) 0 (w 33 24).toNat S k.toNat) hR0 (by omega) (fun b h1 h2 => by
      obtain ⟨n1, n2, -⟩ := wLn_bound (gM w0) 0 k (wSd (gM w) 0 (w 33 24).toNat S k.toNat) b.toNat
      rw [Int.toNat_of_nonneg h1] at n2
      split at n2 <;> omega)
    rw [eN, hg] at g2
    obtain ⟨w2, i1, i2, i3⟩ := ih w1 (hF.tr g1) (by
      rw [show (k + 1).toNat = k.toNat + 1 by omega, wSd, hk3]
      exact g2)
    refine ⟨w2, i1, i2, fun r w9 h => ?_⟩
    apply tX8_laysWalls0_26 w0 _ hM0 (by omega)
    · intro _
      exact g3 r w9 (i3 r w9 h)
    · intro h; omega
theorem y_mlane1 (w : eW) (hM : MB w) (lane : Int) (hl : 0 ≤ lane ∧ lane < w 33 24) (S : eW) (hR : RM w S) (hc : 0 ≤ S 0 0) (hev : ∀ b : Int, 0 ≤ b → b ≤ w 33 25 → wLn (gM w) 1 lane S b.toNat 0 0 ≤ 280) : ∃ w1, FrW w w1 ∧ RM w1 (wLn (gM w) 1 lane S (w 33 25).toNat) ∧ ∀ (r : Option eV) (w9 : eW), Go mX8_laysWalls 26 [(0, eR 33), (1, (0, 1)), (2, (0, 0)), (3, (0, lane + 1))] [] w1 r w9 → Go mX8_laysWalls 51 [(0, eR 33), (1, (0, 1)), (2, (0, 0)), (3, (0, lane)), (4, (0, 0)), (5, (0, 0))] [] w r w9 := by
  obtain ⟨⟨c1, c2, c3, c4, c5, c6, c7, c8, c9, c10⟩, c11, c12, c13⟩ := id hM
  have key := loop_up (P := fun k => ∀ w0, FrW w w0 → RM w0 (wLn (gM w) 1 lane S k.toNat) → ∃ w1, FrW w w1 ∧ RM w1 (wLn (gM w) 1 lane S (w 33 25).toNat) ∧ ∀ (r : Option eV) (w9 : eW), Go mX8_laysWalls 26 [(0, eR 33), (1, (0, 1)), (2, (0, 0)), (3, (0, lane + 1))] [] w1 r w9 → Go mX8_laysWalls 51 [(0, eR 33), (1, (0, 1)), (2, (0, 0)), (3, (0, lane)), (4, (0, if wasP (gM w) 1 lane k then 1 else 0)), (5, (0, k))] [] w0 r w9) 0 (w 33 25) ?_ ?_ 0 (by omega) (by omega) w FrW.rf hR
  · rw [if_neg (fun q => absurd q.1 (by decide))] at key
    exact key
  · intro w0 hF hR0
    have hM0 := hF.mb hM
    have e24 : w0 33 24 = w 33 24 := hF.2 24 (by decide)
    have e25 : w0 33 25 = w 33 25 := hF.2 25 (by decide)
    obtain ⟨n1, n2, n3⟩ := wLn_bound (gM w) 1 lane S (w 33 25).toNat
    rw [Int.toNat_of_nonneg (by omega)] at n2 n3
    have hev1 := hev (w 33 25) (by omega) (by omega)
    have hcnt := hR0.1
    refine ⟨w0, hF, hR0, fun r w9 h => ?_⟩
    apply tX8_laysWalls1_51 w0 _ _ _ hM0 (by omega) (by omega) (by omega)
    · by_cases hp : wasP (gM w) 1 lane (w 33 25)
      · rw [if_pos hp]; exact Or.inr ⟨rfl, by have := n3 hp; omega⟩
      · rw [if_neg hp]; exact Or.inl rfl
    all_goals (intros; first | with_reducible exact h | (exfalso; omega))
  · intro k hk1 hk2 ih w0 hF hR0
    have hM0 := hF.mb hM
    have e24 : w0 33 24 = w 33 24 := hF.2 24 (by decide)
    have e25 : w0 33 25 = w 33 25 := hF.2 25 (by decide)
    obtain ⟨n1, n2, n3⟩ := wLn_bound (gM w) 1 lane S k.toNat
    rw [Int.toNat_of_nonneg hk1] at n2 n3
    have hev1 := hev k hk1 (by omega)
    have hcnt := hR0.1
    have hX : pX 1 lane k = lane := by unfold pX; simp
    have hY : pY 1 lane k = k := by unfold pY; simp
    have hbx : bxS lane 1 = (lane + 1) := by unfold bxS; simp
    have hby : byS k 1 = k := by unfold byS; simp
    have hwl : wlI (gM w) 1 (pX 1 lane k) (pY 1 lane k) ↔ (insM w0 lane k ∧ ¬ insM w0 (lane + 1) k) := by
      unfold wlI
      rw [hX, hY, hbx, hby, gM_1, gM_1, hF.ins, hF.ins]
    have hnext : wasP (gM w) 1 lane (k + 1) ↔ wlI (gM w) 1 (pX 1 lane k) (pY 1 lane k) := by
      unfold wasP
      rw [show k + 1 - 1 = k by omega]
      exact ⟨fun q => q.2, fun q => ⟨by omega, q⟩⟩
    have hin : (if wasP (gM w) 1 lane k then (1 : Int) else 0) = 0 ∨ ((if wasP (gM w) 1 lane k then (1 : Int) else 0) = 1 ∧ 1 ≤ w0 33 33) := by
      by_cases hp : wasP (gM w) 1 lane k
      · rw [if_pos hp]; exact Or.inr ⟨rfl, by have := n3 hp; omega⟩
      · rw [if_neg hp]; exact Or.inl rfl
    rw [wLn_next _ _ _ _ hk1] at ih
    by_cases hl1 : wlI (gM w) 1 (pX 1 lane k) (pY 1 lane k)
    · have hyes := hwl.mp hl1
      by_cases hp : wasP (gM w) 1 lane k
      · obtain ⟨w1, i1, i2, i3⟩ := ih (eU w0 44 (w0 33 33 - 1) (w0 44 (w0 33 33 - 1) + 1)) (hF.len _ _) (by
          unfold wCell
          rw [if_pos hl1, if_pos hp, hX, hY]
          exact RM_len hR0 (by have := n3 hp; omega) _ _ _)
        rw [if_pos (hnext.mpr hl1)] at i3
        refine ⟨w1, i1, i2, fun r w9 h => ?_⟩
        have hfin := i3 r w9 h
        rw [if_pos hp] at hin ⊢
        apply tX8_laysWalls1_51 w0 _ _ _ hM0 (by omega) (by omega) (by omega) hin
        all_goals (intros; first | (exfalso; omega) | contradiction | (rw [if_pos hyes]; with_reducible exact hfin))
      · obtain ⟨w1, i1, i2, i3⟩ := ih (wX8_begins w0 1 lane k) (hF.begin _ _ _) (by
          unfold wCell
          rw [if_pos hl1, if_neg hp, hX, hY]
          exact RM_begin hR0 (by omega) _ _ _)
        rw [if_pos (hnext.mpr hl1)] at i3
        refine ⟨w1, i1, i2, fun r w9 h => ?_⟩
        have hfin := i3 r w9 h
        rw [if_neg hp] at hin ⊢
        apply tX8_laysWalls1_51 w0 _ _ _ hM0 (by omega) (by omega) (by omega) hin
        all_goals (intros; first | (exfalso; omega) | contradiction | (rw [if_pos hyes]; with_reducible exact hfin))
    · obtain ⟨w1, i1, i2, i3⟩ := ih w0 hF (by unfold wCell; rw [if_neg hl1]; exact hR0)
      rw [if_neg (mt hnext.mp hl1)] at i3
      refine ⟨w1, i1, i2, fun r w9 h => ?_⟩
      have hfin := i3 r w9 h
      have hno := mt hwl.mpr hl1
      apply tX8_laysWalls1_51 w0 _ _ _ hM0 (by omega) (by omega) (by omega) hin
      all_goals (intros; first | contradiction | (rw [if_neg hno]; with_reducible exact hfin) | (exfalso; omega))
theorem y_mside1 (w : eW) (hM : MB w) (S : eW) (hc : 0 ≤ S 0 0 ∧ S 0 0 ≤ 70) (hR : RM w S) : ∃ w1, FrW w w1 ∧ RM w1 (wSd (gM w) 1 (w 33 25).toNat S (w 33 24).toNat) ∧ ∀ (r : Option eV) (w9 : eW), Go mX8_laysWalls 26 [(0, eR 33), (1, (0, 2)), (2, (0, 1)), (3, (0, 0))] [] w1 r w9 → Go mX8_laysWalls 26 [(0, eR 33), (1, (0, 1)), (2, (0, 0)), (3, (0, 0))] [] w r w9 := by
  obtain ⟨⟨c1, c2, c3, c4, c5, c6, c7, c8, c9, c10⟩, c11, c12, c13⟩ := id hM
  refine loop_up (P := fun k => ∀ w0, FrW w w0 → RM w0 (wSd (gM w) 1 (w 33 25).toNat S k.toNat) → ∃ w1, FrW w w1 ∧ RM w1 (wSd (gM w) 1 (w 33 25).toNat S (w 33 24).toNat) ∧ ∀ (r : Option eV) (w9 : eW), Go mX8_laysWalls 26 [(0, eR 33), (1, (0, 2)), (2, (0, 1)), (3, (0, 0))] [] w1 r w9 → Go mX8_laysWalls 26 [(0, eR 33), (1, (0, 1)), (2, (0, 0)), (3, (0, k))] [] w0 r w9) 0 (w 33 24) ?_ ?_ 0 (by omega) (by omega) w FrW.rf hR
  · intro w0 hF hR0
    have hM0 := hF.mb hM
    have e24 : w0 33 24 = w 33 24 := hF.2 24 (by decide)
    have e25 : w0 33 25 = w 33 25 := hF.2 25 (by decide)
    refine ⟨w0, hF, hR0, fun r w9 h => ?_⟩
    apply tX8_laysWalls1_26 w0 _ hM0 (by omega)
    · intro h; omega
    · intro _; exact h
  · intro k hk1 hk2 ih w0 hF hR0
    have hM0 := hF.mb hM
    have e24 : w0 33 24 = w 33 24 := hF.2 24 (by decide)
    have e25 : w0 33 25 = w 33 25 := hF.2 25 (by decide)
    obtain ⟨q1, q2⟩ := wSd_bound (gM w) 1 (w 33 25).toNat S 5 (by omega) k.toNat
    have hk3 : (k.toNat : Int) = k := Int.toNat_of_nonneg hk1
    rw [hk3] at q2
    have eN : (w0 33 25) = w 33 25 := e25
    have hg : gM w0 = gM w := gM_fr hF
    obtain ⟨w1, g1, g2, g3⟩ := y_mlane1 w0 hM0 k (by omega) (wSd (gM w) 1 (w 33 25).toNat S k.toNat) hR0 (by omega) (fun b h1 h2 => by
      obtain ⟨n1, n2, -⟩ := wLn_bound (gM w0) 1 k (wSd (gM w) 1 (w 33 25).toNat S k.toNat) b.toNat
      rw [Int.toNat_of_nonneg h1] at n2
      split at n2 <;> omega)
    rw [eN, hg] at g2
    obtain ⟨w2, i1, i2, i3⟩ := ih w1 (hF.tr g1) (by
      rw [show (k + 1).toNat = k.toNat + 1 by omega, wSd, hk3]
      exact g2)
    refine ⟨w2, i1, i2, fun r w9 h => ?_⟩
    apply tX8_laysWalls1_26 w0 _ hM0 (by omega)
    · intro _
      exact g3 r w9 (i3 r w9 h)
    · intro h; omega
theorem y_mlane2 (w : eW) (hM : MB w) (lane : Int) (hl : 0 ≤ lane ∧ lane < w 33 25) (S : eW) (hR : RM w S) (hc : 0 ≤ S 0 0) (hev : ∀ b : Int, 0 ≤ b → b ≤ w 33 24 → wLn (gM w) 2 lane S b.toNat 0 0 ≤ 280) : ∃ w1, FrW w w1 ∧ RM w1 (wLn (gM w) 2 lane S (w 33 24).toNat) ∧ ∀ (r : Option eV) (w9 : eW), Go mX8_laysWalls 26 [(0, eR 33), (1, (0, 2)), (2, (0, 1)), (3, (0, lane + 1))] [] w1 r w9 → Go mX8_laysWalls 51 [(0, eR 33), (1, (0, 2)), (2, (0, 1)), (3, (0, lane)), (4, (0, 0)), (5, (0, 0))] [] w r w9 := by
  obtain ⟨⟨c1, c2, c3, c4, c5, c6, c7, c8, c9, c10⟩, c11, c12, c13⟩ := id hM
  have key := loop_up (P := fun k => ∀ w0, FrW w w0 → RM w0 (wLn (gM w) 2 lane S k.toNat) → ∃ w1, FrW w w1 ∧ RM w1 (wLn (gM w) 2 lane S (w 33 24).toNat) ∧ ∀ (r : Option eV) (w9 : eW), Go mX8_laysWalls 26 [(0, eR 33), (1, (0, 2)), (2, (0, 1)), (3, (0, lane + 1))] [] w1 r w9 → Go mX8_laysWalls 51 [(0, eR 33), (1, (0, 2)), (2, (0, 1)), (3, (0, lane)), (4, (0, if wasP (gM w) 2 lane k then 1 else 0)), (5, (0, k))] [] w0 r w9) 0 (w 33 24) ?_ ?_ 0 (by omega) (by omega) w FrW.rf hR
  · rw [if_neg (fun q => absurd q.1 (by decide))] at key
    exact key
  · intro w0 hF hR0
    have hM0 := hF.mb hM
    have e24 : w0 33 24 = w 33 24 := hF.2 24 (by decide)
    have e25 : w0 33 25 = w 33 25 := hF.2 25 (by decide)
    obtain ⟨n1, n2, n3⟩ := wLn_bound (gM w) 2 lane S (w 33 24).toNat
    rw [Int.toNat_of_nonneg (by omega)] at n2 n3
    have hev1 := hev (w 33 24) (by omega) (by omega)
    have hcnt := hR0.1
    refine ⟨w0, hF, hR0, fun r w9 h => ?_⟩
    apply tX8_laysWalls2_51 w0 _ _ _ hM0 (by omega) (by omega) (by omega)
    · by_cases hp : wasP (gM w) 2 lane (w 33 24)
      · rw [if_pos hp]; exact Or.inr ⟨rfl, by have := n3 hp; omega⟩
      · rw [if_neg hp]; exact Or.inl rfl
    all_goals (intros; first | with_reducible exact h | (exfalso; omega))
  · intro k hk1 hk2 ih w0 hF hR0
    have hM0 := hF.mb hM
    have e24 : w0 33 24 = w 33 24 := hF.2 24 (by decide)
    have e25 : w0 33 25 = w 33 25 := hF.2 25 (by decide)
    obtain ⟨n1, n2, n3⟩ := wLn_bound (gM w) 2 lane S k.toNat
    rw [Int.toNat_of_nonneg hk1] at n2 n3
    have hev1 := hev k hk1 (by omega)
    have hcnt := hR0.1
    have hX : pX 2 lane k = k := by unfold pX; simp
    have hY : pY 2 lane k = lane := by unfold pY; simp
    have hbx : bxS k 2 = k := by unfold bxS; simp
    have hby : byS lane 2 = (lane + 1) := by unfold byS; simp
    have hwl : wlI (gM w) 2 (pX 2 lane k) (pY 2 lane k) ↔ (insM w0 k lane ∧ ¬ insM w0 k (lane + 1)) := by
      unfold wlI
      rw [hX, hY, hbx, hby, gM_1, gM_1, hF.ins, hF.ins]
    have hnext : wasP (gM w) 2 lane (k + 1) ↔ wlI (gM w) 2 (pX 2 lane k) (pY 2 lane k) := by
      unfold wasP
      rw [show k + 1 - 1 = k by omega]
      exact ⟨fun q => q.2, fun q => ⟨by omega, q⟩⟩
    have hin : (if wasP (gM w) 2 lane k then (1 : Int) else 0) = 0 ∨ ((if wasP (gM w) 2 lane k then (1 : Int) else 0) = 1 ∧ 1 ≤ w0 33 33) := by
      by_cases hp : wasP (gM w) 2 lane k
      · rw [if_pos hp]; exact Or.inr ⟨rfl, by have := n3 hp; omega⟩
      · rw [if_neg hp]; exact Or.inl rfl
    rw [wLn_next _ _ _ _ hk1] at ih
    by_cases hl1 : wlI (gM w) 2 (pX 2 lane k) (pY 2 lane k)
    · have hyes := hwl.mp hl1
      by_cases hp : wasP (gM w) 2 lane k
      · obtain ⟨w1, i1, i2, i3⟩ := ih (eU w0 44 (w0 33 33 - 1) (w0 44 (w0 33 33 - 1) + 1)) (hF.len _ _) (by
          unfold wCell
          rw [if_pos hl1, if_pos hp, hX, hY]
          exact RM_len hR0 (by have := n3 hp; omega) _ _ _)
        rw [if_pos (hnext.mpr hl1)] at i3
        refine ⟨w1, i1, i2, fun r w9 h => ?_⟩
        have hfin := i3 r w9 h
        rw [if_pos hp] at hin ⊢
        apply tX8_laysWalls2_51 w0 _ _ _ hM0 (by omega) (by omega) (by omega) hin
        all_goals (intros; first | (exfalso; omega) | contradiction | (rw [if_pos hyes]; with_reducible exact hfin))
      · obtain ⟨w1, i1, i2, i3⟩ := ih (wX8_begins w0 2 k lane) (hF.begin _ _ _) (by
          unfold wCell
          rw [if_pos hl1, if_neg hp, hX, hY]
          exact RM_begin hR0 (by omega) _ _ _)
        rw [if_pos (hnext.mpr hl1)] at i3
        refine ⟨w1, i1, i2, fun r w9 h => ?_⟩
        have hfin := i3 r w9 h
        rw [if_neg hp] at hin ⊢
        apply tX8_laysWalls2_51 w0 _ _ _ hM0 (by omega) (by omega) (by omega) hin
        all_goals (intros; first | (exfalso; omega) | contradiction | (rw [if_pos hyes]; with_reducible exact hfin))
    · obtain ⟨w1, i1, i2, i3⟩ := ih w0 hF (by unfold wCell; rw [if_neg hl1]; exact hR0)
      rw [if_neg (mt hnext.mp hl1)] at i3
      refine ⟨w1, i1, i2, fun r w9 h => ?_⟩
      have hfin := i3 r w9 h
      have hno := mt hwl.mpr hl1
      apply tX8_laysWalls2_51 w0 _ _ _ hM0 (by omega) (by omega) (by omega) hin
      all_goals (intros; first | contradiction | (rw [if_neg hno]; with_reducible exact hfin) | (exfalso; omega))
theorem y_mside2 (w : eW) (hM : MB w) (S : eW) (hc : 0 ≤ S 0 0 ∧ S 0 0 ≤ 140) (hR : RM w S) : ∃ w1, FrW w w1 ∧ RM w1 (wSd (gM w) 2 (w 33 24).toNat S (w 33 25).toNat) ∧ ∀ (r : Option eV) (w9 : eW), Go mX8_laysWalls 26 [(0, eR 33), (1, (0, 3)), (2, (0, 0)), (3, (0, 0))] [] w1 r w9 → Go mX8_laysWalls 26 [(0, eR 33), (1, (0, 2)), (2, (0, 1)), (3, (0, 0))] [] w r w9 := by
  obtain ⟨⟨c1, c2, c3, c4, c5, c6, c7, c8, c9, c10⟩, c11, c12, c13⟩ := id hM
  refine loop_up (P := fun k => ∀ w0, FrW w w0 → RM w0 (wSd (gM w) 2 (w 33 24).toNat S k.toNat) → ∃ w1, FrW w w1 ∧ RM w1 (wSd (gM w) 2 (w 33 24).toNat S (w 33 25).toNat) ∧ ∀ (r : Option eV) (w9 : eW), Go mX8_laysWalls 26 [(0, eR 33), (1, (0, 3)), (2, (0, 0)), (3, (0, 0))] [] w1 r w9 → Go mX8_laysWalls 26 [(0, eR 33), (1, (0, 2)), (2, (0, 1)), (3, (0, k))] [] w0 r w9) 0 (w 33 25) ?_ ?_ 0 (by omega) (by omega) w FrW.rf hR
  · intro w0 hF hR0
    have hM0 := hF.mb hM
    have e24 : w0 33 24 = w 33 24 := hF.2 24 (by decide)
    have e25 : w0 33 25 = w 33 25 := hF.2 25 (by decide)
    refine ⟨w0, hF, hR0, fun r w9 h => ?_⟩
    apply tX8_laysWalls2_26 w0 _ hM0 (by omega)
    · intro h; omega
    · intro _; exact h
  · intro k hk1 hk2 ih w0 hF hR0
    have hM0 := hF.mb hM
    have e24 : w0 33 24 = w 33 24 := hF.2 24 (by decide)
    have e25 : w0 33 25 = w 33 25 := hF.2 25 (by decide)
    obtain ⟨q1, q2⟩ := wSd_bound (gM w) 2 (w 33 24).toNat S 7 (by omega) k.toNat
    have hk3 : (k.toNat : Int) = k := Int.toNat_of_nonneg hk1
    rw [hk3] at q2
    have eN : (w0 33 24) = w 33 24 := e24
    have hg : gM w0 = gM w := gM_fr hF
    obtain ⟨w1, g1, g2, g3⟩ := y_mlane2 w0 hM0 k (by omega) (wSd (gM w) 2 (w 33 24).toNat S k.toNat) hR0 (by omega) (fun b h1 h2 => by
      obtain ⟨n1, n2, -⟩ := wLn_bound (gM w0) 2 k (wSd (gM w) 2 (w 33 24).toNat S k.toNat) b.toNat
      rw [Int.toNat_of_nonneg h1] at n2
      split at n2 <;> omega)
    rw [eN, hg] at g2
    obtain ⟨w2, i1, i2, i3⟩ := ih w1 (hF.tr g1) (by
      rw [show (k + 1).toNat = k.toNat + 1 by omega, wSd, hk3]
      exact g2)
    refine ⟨w2, i1, i2, fun r w9 h => ?_⟩
    apply tX8_laysWalls2_26 w0 _ hM0 (by omega)
    · intro _
      exact g3 r w9 (i3 r w9 h)
    · intro h; omega
theorem y_mlane3 (w : eW) (hM : MB w) (lane : Int) (hl : 0 ≤ lane ∧ lane < w 33 24) (S : eW) (hR : RM w S) (hc : 0 ≤ S 0 0) (hev : ∀ b : Int, 0 ≤ b → b ≤ w 33 25 → wLn (gM w) 3 lane S b.toNat 0 0 ≤ 280) : ∃ w1, FrW w w1 ∧ RM w1 (wLn (gM w) 3 lane S (w 33 25).toNat) ∧ ∀ (r : Option eV) (w9 : eW), Go mX8_laysWalls 26 [(0, eR 33), (1, (0, 3)), (2, (0, 0)), (3, (0, lane + 1))] [] w1 r w9 → Go mX8_laysWalls 51 [(0, eR 33), (1, (0, 3)), (2, (0, 0)), (3, (0, lane)), (4, (0, 0)), (5, (0, 0))] [] w r w9 := by
  obtain ⟨⟨c1, c2, c3, c4, c5, c6, c7, c8, c9, c10⟩, c11, c12, c13⟩ := id hM
  have key := loop_up (P := fun k => ∀ w0, FrW w w0 → RM w0 (wLn (gM w) 3 lane S k.toNat) → ∃ w1, FrW w w1 ∧ RM w1 (wLn (gM w) 3 lane S (w 33 25).toNat) ∧ ∀ (r : Option eV) (w9 : eW), Go mX8_laysWalls 26 [(0, eR 33), (1, (0, 3)), (2, (0, 0)), (3, (0, lane + 1))] [] w1 r w9 → Go mX8_laysWalls 51 [(0, eR 33), (1, (0, 3)), (2, (0, 0)), (3, (0, lane)), (4, (0, if wasP (gM w) 3 lane k then 1 else 0)), (5, (0, k))] [] w0 r w9) 0 (w 33 25) ?_ ?_ 0 (by omega) (by omega) w FrW.rf hR
  · rw [if_neg (fun q => absurd q.1 (by decide))] at key
    exact key
  · intro w0 hF hR0
    have hM0 := hF.mb hM
    have e24 : w0 33 24 = w 33 24 := hF.2 24 (by decide)
    have e25 : w0 33 25 = w 33 25 := hF.2 25 (by decide)
    obtain ⟨n1, n2, n3⟩ := wLn_bound (gM w) 3 lane S (w 33 25).toNat
    rw [Int.toNat_of_nonneg (by omega)] at n2 n3
    have hev1 := hev (w 33 25) (by omega) (by omega)
    have hcnt := hR0.1
    refine ⟨w0, hF, hR0, fun r w9 h => ?_⟩
    apply tX8_laysWalls3_51 w0 _ _ _ hM0 (by omega) (by omega) (by omega)
    · by_cases hp : wasP (gM w) 3 lane (w 33 25)
      · rw [if_pos hp]; exact Or.inr ⟨rfl, by have := n3 hp; omega⟩
      · rw [if_neg hp]; exact Or.inl rfl
    all_goals (intros; first | with_reducible exact h | (exfalso; omega))
  · intro k hk1 hk2 ih w0 hF hR0
    have hM0 := hF.mb hM
    have e24 : w0 33 24 = w 33 24 := hF.2 24 (by decide)
    have e25 : w0 33 25 = w 33 25 := hF.2 25 (by decide)
    obtain ⟨n1, n2, n3⟩ := wLn_bound (gM w) 3 lane S k.toNat
    rw [Int.toNat_of_nonneg hk1] at n2 n3
    have hev1 := hev k hk1 (by omega)
    have hcnt := hR0.1
    have hX : pX 3 lane k = lane := by unfold pX; simp
    have hY : pY 3 lane k = k := by unfold pY; simp
    have hbx : bxS lane 3 = (lane - 1) := by unfold bxS; simp
    have hby : byS k 3 = k := by unfold byS; simp
    have hwl : wlI (gM w) 3 (pX 3 lane k) (pY 3 lane k) ↔ (insM w0 lane k ∧ ¬ insM w0 (lane - 1) k) := by
      unfold wlI
      rw [hX, hY, hbx, hby, gM_1, gM_1, hF.ins, hF.ins]
    have hnext : wasP (gM w) 3 lane (k + 1) ↔ wlI (gM w) 3 (pX 3 lane k) (pY 3 lane k) := by
      unfold wasP
      rw [show k + 1 - 1 = k by omega]
      exact ⟨fun q => q.2, fun q => ⟨by omega, q⟩⟩
    have hin : (if wasP (gM w) 3 lane k then (1 : Int) else 0) = 0 ∨ ((if wasP (gM w) 3 lane k then (1 : Int) else 0) = 1 ∧ 1 ≤ w0 33 33) := by
      by_cases hp : wasP (gM w) 3 lane k
      · rw [if_pos hp]; exact Or.inr ⟨rfl, by have := n3 hp; omega⟩
      · rw [if_neg hp]; exact Or.inl rfl
    rw [wLn_next _ _ _ _ hk1] at ih
    by_cases hl1 : wlI (gM w) 3 (pX 3 lane k) (pY 3 lane k)
    · have hyes := hwl.mp hl1
      by_cases hp : wasP (gM w) 3 lane k
      · obtain ⟨w1, i1, i2, i3⟩ := ih (eU w0 44 (w0 33 33 - 1) (w0 44 (w0 33 33 - 1) + 1)) (hF.len _ _) (by
          unfold wCell
          rw [if_pos hl1, if_pos hp, hX, hY]
          exact RM_len hR0 (by have := n3 hp; omega) _ _ _)
        rw [if_pos (hnext.mpr hl1)] at i3
        refine ⟨w1, i1, i2, fun r w9 h => ?_⟩
        have hfin := i3 r w9 h
        rw [if_pos hp] at hin ⊢
        apply tX8_laysWalls3_51 w0 _ _ _ hM0 (by omega) (by omega) (by omega) hin
        all_goals (intros; first | (exfalso; omega) | contradiction | (rw [if_pos hyes]; with_reducible exact hfin))
      · obtain ⟨w1, i1, i2, i3⟩ := ih (wX8_begins w0 3 lane k) (hF.begin _ _ _) (by
          unfold wCell
          rw [if_pos hl1, if_neg hp, hX, hY]
          exact RM_begin hR0 (by omega) _ _ _)
        rw [if_pos (hnext.mpr hl1)] at i3
        refine ⟨w1, i1, i2, fun r w9 h => ?_⟩
        have hfin := i3 r w9 h
        rw [if_neg hp] at hin ⊢
        apply tX8_laysWalls3_51 w0 _ _ _ hM0 (by omega) (by omega) (by omega) hin
        all_goals (intros; first | (exfalso; omega) | contradiction | (rw [if_pos hyes]; with_reducible exact hfin))
    · obtain ⟨w1, i1, i2, i3⟩ := ih w0 hF (by unfold wCell; rw [if_neg hl1]; exact hR0)
      rw [if_neg (mt hnext.mp hl1)] at i3
      refine ⟨w1, i1, i2, fun r w9 h => ?_⟩
      have hfin := i3 r w9 h
      have hno := mt hwl.mpr hl1
      apply tX8_laysWalls3_51 w0 _ _ _ hM0 (by omega) (by omega) (by omega) hin
      all_goals (intros; first | contradiction | (rw [if_neg hno]; with_reducible exact hfin) | (exfalso; omega))
theorem y_mside3 (w : eW) (hM : MB w) (S : eW) (hc : 0 ≤ S 0 0 ∧ S 0 0 ≤ 210) (hR : RM w S) : ∃ w1, FrW w w1 ∧ RM w1 (wSd (gM w) 3 (w 33 25).toNat S (w 33 24).toNat) ∧ ∀ (r : Option eV) (w9 : eW), r = none ∧ w9 = w1 → Go mX8_laysWalls 26 [(0, eR 33), (1, (0, 3)), (2, (0, 0)), (3, (0, 0))] [] w r w9 := by
  obtain ⟨⟨c1, c2, c3, c4, c5, c6, c7, c8, c9, c10⟩, c11, c12, c13⟩ := id hM
  refine loop_up (P := fun k => ∀ w0, FrW w w0 → RM w0 (wSd (gM w) 3 (w 33 25).toNat S k.toNat) → ∃ w1, FrW w w1 ∧ RM w1 (wSd (gM w) 3 (w 33 25).toNat S (w 33 24).toNat) ∧ ∀ (r : Option eV) (w9 : eW), r = none ∧ w9 = w1 → Go mX8_laysWalls 26 [(0, eR 33), (1, (0, 3)), (2, (0, 0)), (3, (0, k))] [] w0 r w9) 0 (w 33 24) ?_ ?_ 0 (by omega) (by omega) w FrW.rf hR
  · intro w0 hF hR0
    have hM0 := hF.mb hM
    have e24 : w0 33 24 = w 33 24 := hF.2 24 (by decide)
    have e25 : w0 33 25 = w 33 25 := hF.2 25 (by decide)
    refine ⟨w0, hF, hR0, fun r w9 h => ?_⟩
    apply tX8_laysWalls3_26 w0 _ hM0 (by omega)
    · intro h; omega
    · intro _; exact h
  · intro k hk1 hk2 ih w0 hF hR0
    have hM0 := hF.mb hM
    have e24 : w0 33 24 = w 33 24 := hF.2 24 (by decide)
    have e25 : w0 33 25 = w 33 25 := hF.2 25 (by decide)
    obtain ⟨q1, q2⟩ := wSd_bound (gM w) 3 (w 33 25).toNat S 5 (by omega) k.toNat
    have hk3 : (k.toNat : Int) = k := Int.toNat_of_nonneg hk1
    rw [hk3] at q2
    have eN : (w0 33 25) = w 33 25 := e25
    have hg : gM w0 = gM w := gM_fr hF
    obtain ⟨w1, g1, g2, g3⟩ := y_mlane3 w0 hM0 k (by omega) (wSd (gM w) 3 (w 33 25).toNat S k.toNat) hR0 (by omega) (fun b h1 h2 => by
      obtain ⟨n1, n2, -⟩ := wLn_bound (gM w0) 3 k (wSd (gM w) 3 (w 33 25).toNat S k.toNat) b.toNat
      rw [Int.toNat_of_nonneg h1] at n2
      split at n2 <;> omega)
    rw [eN, hg] at g2
    obtain ⟨w2, i1, i2, i3⟩ := ih w1 (hF.tr g1) (by
      rw [show (k + 1).toNat = k.toNat + 1 by omega, wSd, hk3]
      exact g2)
    refine ⟨w2, i1, i2, fun r w9 h => ?_⟩
    apply tX8_laysWalls3_26 w0 _ hM0 (by omega)
    · intro _
      exact g3 r w9 (i3 r w9 h)
    · intro h; omega
/-- the walls of the model's house -/
def wallsM (w : eW) : eW := wAl (gM w) (w 33 24).toNat (w 33 25).toNat 4
theorem wAl_bound (g : Int → Int → Int) (W H : Nat) (hW : W ≤ 14) (hH : H ≤ 10) : ∀ k : Nat, 0 ≤ wAl g W H k 0 0 ∧ wAl g W H k 0 0 ≤ 70 * k := by
  intro k
  induction k with
  | zero => exact ⟨Int.le_refl _, by show (0 : Int) ≤ 0; omega⟩
  | succ k ih =>
    rw [wAl]
    by_cases hk : k = 0 ∨ k = 2
    · rw [if_pos hk, if_pos hk]
      have := wSd_bound g k W (wAl g W H k) 7 (by omega) H
      omega
    · rw [if_neg hk, if_neg hk]
      have := wSd_bound g k H (wAl g W H k) 5 (by omega) W
      omega
theorem y_X8_laysWalls (w : eW) (hM : MB w) : ∃ w1, Cal mX8_laysWalls [eR 33] w none w1 ∧ FrW w w1 ∧ RM w1 (wallsM w) := by
  obtain ⟨⟨c1, c2, c3, c4, c5, c6, c7, c8, c9, c10⟩, c11, c12, c13⟩ := id hM
  have hF0 : FrW w (eU w 33 33 0) := ⟨Fr.put Fr.rf (by decide), fun i hi => by rw [eU_get, if_neg hi]⟩
  have b0 := wAl_bound (gM w) (w 33 24).toNat (w 33 25).toNat (by omega) (by omega)
  obtain ⟨w1, f1, r1, g1⟩ := y_mside0 _ (hF0.mb hM) wS0 (by show (0 : Int) ≤ 0 ∧ (0 : Int) ≤ 0; omega) ⟨rfl, fun i h1 h2 => absurd h2 (by show ¬ i < 0; omega)⟩
  rw [gM_fr hF0, hF0.2 24 (by decide), hF0.2 25 (by decide)] at r1
  have hF1 := hF0.tr f1
  obtain ⟨w2, f2, r2, g2⟩ := y_mside1 w1 (hF1.mb hM) (wAl (gM w) (w 33 24).toNat (w 33 25).toNat 1) (b0 1) r1
  rw [gM_fr hF1, hF1.2 24 (by decide), hF1.2 25 (by decide)] at r2
  have hF2 := hF1.tr f2
  obtain ⟨w3, f3, r3, g3⟩ := y_mside2 w2 (hF2.mb hM) (wAl (gM w) (w 33 24).toNat (w 33 25).toNat 2) (b0 2) r2
  rw [gM_fr hF2, hF2.2 24 (by decide), hF2.2 25 (by decide)] at r3
  have hF3 := hF2.tr f3
  obtain ⟨w4, f4, r4, g4⟩ := y_mside3 w3 (hF3.mb hM) (wAl (gM w) (w 33 24).toNat (w 33 25).toNat 3) (b0 3) r3
  rw [gM_fr hF3, hF3.2 24 (by decide), hF3.2 25 (by decide)] at r4
  exact ⟨w4, Cal.of (by decide +kernel) (Nat.le_of_ble_eq_true rfl) (tX8_laysWalls_0 w hM (g1 _ _ (g2 _ _ (g3 _ _ (g4 _ _ ⟨rfl, rfl⟩))))), hF3.tr f4, r4⟩
