theorem y_X8_laysEvents (wi : eW) (hMi : MB wi) (hspi : ∀ k, 140 ≤ k → k < 144 → 1 ≤ wi 38 k ∧ wi 38 k ≤ 9) (hWi : 1 ≤ wi 33 24) (hHi : 1 ≤ wi 33 25) : ∃ w1, Cal mX8_laysEvents [eR 33] wi none w1 ∧ Fr [33, 45, 46, 47, 48, 49, 50, 51, 52, 53, 54, 55, 56, 57, 58, 59, 60] wi w1 ∧ (∀ i, i < 42 → w1 33 i = wi 33 i) ∧ w1 33 47 = (wi 38 141 + wi 38 143) * (wi 38 140 + wi 38 142) ∧ w1 33 55 = evN (gM wi) (wi 38 141 + wi 38 143) (wi 38 140 + wi 38 142) 24 ∧ evM (gM wi) (wi 38 141 + wi 38 143) (wi 38 140 + wi 38 142) w1 24 := by
  obtain ⟨w, a1, a2, a3, a4, a5⟩ := y_X8_laysTimes wi hMi hspi
  have e38 : w 38 = wi 38 := a2 38 (by decide)
  have hM : MB w := MB_g e38 (a2 40 (by decide)) (fun i h1 h2 => a3 i (by omega) (by omega)) hMi
  have hsp : ∀ k, 140 ≤ k → k < 144 → 1 ≤ w 38 k ∧ w 38 k ≤ 9 := by rw [e38]; exact hspi
  have eg : gM w = gM wi := gM_g e38 (fun i h1 h2 => a3 i (by omega) (by omega))
  have h24 : w 33 24 = wi 33 24 := a3 24 (by decide) (by decide)
  have h25 : w 33 25 = wi 33 25 := a3 25 (by decide) (by decide)
  rw [← e38] at a4 a5
  rw [← h24, ← h25] at a5
  rw [← h24] at hWi
  rw [← h25] at hHi
  rw [← e38, ← eg]
  obtain ⟨⟨c1, c2, c3, c4, c5, c6, c7, c8, c9, c10⟩, c11, c12, c13⟩ := id hM
  have s0 := hsp 140 (by decide) (by decide)
  have s1 := hsp 141 (by decide) (by decide)
  have s2 := hsp 142 (by decide) (by decide)
  have s3 := hsp 143 (by decide) (by decide)
  have hn := tmK_n a5 (by omega) (by omega)
  have key := loop_up (P := fun k => ∀ w0, FrE w w0 → w0 33 55 = evN (gM w) (w 38 141 + w 38 143) (w 38 140 + w 38 142) k → evM (gM w) (w 38 141 + w 38 143) (w 38 140 + w 38 142) w0 k → ∃ w1, Go mX8_laysEvents 11 [(0, eR 33), (1, (0, k))] [] w0 none w1 ∧ FrE w w1 ∧ w1 33 55 = evN (gM w) (w 38 141 + w 38 143) (w 38 140 + w 38 142) (w 33 46) ∧ evM (gM w) (w 38 141 + w 38 143) (w 38 140 + w 38 142) w1 (w 33 46)) 0 (w 33 46) ?_ ?_ 0 (by omega) (by omega) (eU w 33 55 0) ⟨Fr.rf.put (by decide), fun i z1 z2 z3 z4 => by rw [eU_get, if_neg z4]⟩ (by rw [eU_get, if_pos rfl]; exact (sumI_self _ _).symm) (fun k hk => absurd hk (by omega))
  · obtain ⟨w1, k1, k2, k3, k4⟩ := key
    have hd : ¬ evL (w 38 141 + w 38 143) (w 38 140 + w 38 142) (w 33 24) (w 33 25) (w 33 46).toNat := fun z => by
      have := (tm_at (tmK_I a5) (by omega) (by omega) _ z).1
      omega
    have hz := st_dead (g := gM w) gM_in (by omega) (by omega) hd
    have en := evN_gone hz (K := 24) (by omega)
    rw [show (((w 33 46).toNat : Nat) : Int) = w 33 46 by omega] at en
    refine ⟨w1, Cal.of (by decide +kernel) (Nat.le_of_ble_eq_true rfl) (tX8_laysEvents_0 wi a1 k1), (a2.mono (by decide)).tr (k2.1.mono (by decide)), fun i hi => ?_, ?_, by rw [en]; exact k3, fun k hk hE => ?_⟩
    · rw [k2.2 i (by omega) (by omega) (by omega) (by omega)]
      exact a3 i (by omega) (by omega)
    · rw [k2.2 47 (by decide) (by decide) (by decide) (by decide)]; exact a4
    · by_cases hk2 : (k : Int) < w 33 46
      · exact k4 k hk2 hE
      · exact absurd hE (EVk_gone (st_gone hz k (by omega)))
  · intro w0 f0 e55 hR
    have e46 : w0 33 46 = w 33 46 := f0.2 46 (by decide) (by decide) (by decide) (by decide)
    refine ⟨w0, ?_, f0, e55, hR⟩
    apply tX8_laysEvents_11 w0 _ (w1 := w0) (md := 0) (by omega) (by omega) (fun z => absurd z (by omega)) (fun z => absurd z (by omega))
    · intro z; omega
    · intro _; exact ⟨rfl, rfl⟩
  · intro k hk1 hk2 ih w0 f0 e55 hR
    have g33 := f0.2
    have e46 : w0 33 46 = w 33 46 := g33 46 (by decide) (by decide) (by decide) (by decide)
    have e47 : w0 33 47 = w 33 47 := g33 47 (by decide) (by decide) (by decide) (by decide)
    have e38' : w0 38 = w 38 := f0.1 38 (by decide)
    have e53 : w0 53 = w 53 := f0.1 53 (by decide)
    have e24 : w0 33 24 = w 33 24 := g33 24 (by decide) (by decide) (by decide) (by decide)
    have e25 : w0 33 25 = w 33 25 := g33 25 (by decide) (by decide) (by decide) (by decide)
    have hM0 : MB w0 := MB_g e38' (f0.1 40 (by decide)) (fun i z1 z2 => g33 i (by omega) (by omega) (by omega) (by omega)) hM
    have eg0 : gM w0 = gM w := gM_g e38' (fun i z1 z2 => g33 i (by omega) (by omega) (by omega) (by omega))
    have hK0 : tmK w0 (w0 38 141 + w0 38 143) (w0 38 140 + w0 38 142) (w0 33 24) (w0 33 25) := by
      unfold tmK
      rw [e38', e24, e25, e46, e53]
      exact a5
    have nb := evN_b (gM w) (w 38 141 + w 38 143) (w 38 140 + w 38 142) hk1
    have sp := y_evSpan w0 hM0 (by rw [e38']; exact hsp) (by omega) (by omega) hK0 (by rw [e47, e38']; exact a4) k (by omega) (by omega)
    rw [e38', eg0] at sp
    obtain ⟨w4, d1, d2, d3, d4, d5, d6, d7⟩ := sp
    have f4 : FrE w w4 := ⟨f0.1.tr d1.1, fun i z1 z2 z3 z4 => (d1.2 i z1 z2 z3 z4).trans (g33 i z1 z2 z3 z4)⟩
    have h453 : w4 53 = w 53 := (d1.1 53 (by decide)).trans e53
    have es := evN_succ (gM w) (w 38 141 + w 38 143) (w 38 140 + w 38 142) hk1
    by_cases hE : EVk (gM w) (w 38 141 + w 38 143) (w 38 140 + w 38 142) k.toNat
    · -- the time of it
      have hL : evL (w 38 141 + w 38 143) (w 38 140 + w 38 142) (w 33 24) (w 33 25) k.toNat := Classical.byContradiction fun z => EVk_gone (st_dead gM_in (by omega) (by omega) z) hE
      have tk := (tm_at (tmK_I a5) (by omega) (by omega) _ hL).2
      rw [show ((k.toNat : Nat) : Int) = k by omega] at tk
      obtain ⟨w5, k1, k2, k3, k4⟩ := ih (eU (eU (eU (eU (eU w4 54 (w4 33 55) (w4 53 k)) 55 (w4 33 55) (evE (stS (gM w) (w 38 141 + w 38 143) (w 38 140 + w 38 142) k.toNat) (stS (gM w) (w 38 141 + w 38 143) (w 38 140 + w 38 142) (k.toNat + 1)) (npF (stS (gM w) (w 38 141 + w 38 143) (w 38 140 + w 38 142) k.toNat)))) 56 (w4 33 55) (evP (stS (gM w) (w 38 141 + w 38 143) (w 38 140 + w 38 142) k.toNat) (stS (gM w) (w 38 141 + w 38 143) (w 38 140 + w 38 142) (k.toNat + 1)) (npF (stS (gM w) (w 38 141 + w 38 143) (w 38 140 + w 38 142) k.toNat)))) 57 (w4 33 55) (npF (stS (gM w) (w 38 141 + w 38 143) (w 38 140 + w 38 142) (k.toNat + 1)))) 33 55 (w4 33 55 + 1)) ⟨((((f4.1.put (by decide)).put (by decide)).put (by decide)).put (by decide)).put (by decide), fun i z1 z2 z3 z4 => by rw [eU_get, if_neg z4, eU_ne (by decide), eU_ne (by decide), eU_ne (by decide), eU_ne (by decide)]; exact f4.2 i z1 z2 z3 z4⟩ (by rw [eU_get, if_pos rfl, d2, e55, es, bI_1 hE]) (fun j hj hEj => by
        rw [eU_ne (show (54 : Nat) ≠ 33 by decide), eU_ne (show (54 : Nat) ≠ 57 by decide), eU_ne (show (54 : Nat) ≠ 56 by decide), eU_ne (show (54 : Nat) ≠ 55 by decide), eU_get, eU_ne (show (55 : Nat) ≠ 33 by decide), eU_ne (show (55 : Nat) ≠ 57 by decide), eU_ne (show (55 : Nat) ≠ 56 by decide), eU_get, eU_ne (show (56 : Nat) ≠ 33 by decide), eU_ne (show (56 : Nat) ≠ 57 by decide), eU_get, eU_ne (show (57 : Nat) ≠ 33 by decide), eU_get, eU_ne (show (55 : Nat) ≠ 54 by decide), eU_ne (show (56 : Nat) ≠ 55 by decide), eU_ne (show (56 : Nat) ≠ 54 by decide), eU_ne (show (57 : Nat) ≠ 56 by decide), eU_ne (show (57 : Nat) ≠ 55 by decide), eU_ne (show (57 : Nat) ≠ 54 by decide), d2, e55, d3, d4, d5, d6]
        by_cases hjk : j = k.toNat
        · subst hjk
          rw [show ((k.toNat : Nat) : Int) = k by omega, if_pos rfl, if_pos rfl, if_pos rfl, if_pos rfl, h453, tk]
          exact ⟨rfl, rfl, rfl, rfl⟩
        · have hlt := evN_lt (gM w) (w 38 141 + w 38 143) (w 38 140 + w 38 142) (show j < k.toNat by omega) hEj
          rw [show ((k.toNat : Nat) : Int) = k by omega] at hlt
          rw [if_neg (by omega), if_neg (by omega), if_neg (by omega), if_neg (by omega)]
          exact hR j (by omega) hEj)
      refine ⟨w5, d7 _ _ (fun z => ?_) (fun _ => k1), k2, k3, k4⟩
      have : 0 < evE (stS (gM w) (w 38 141 + w 38 143) (w 38 140 + w 38 142) k.toNat) (stS (gM w) (w 38 141 + w 38 143) (w 38 140 + w 38 142) (k.toNat + 1)) (npF (stS (gM w) (w 38 141 + w 38 143) (w 38 140 + w 38 142) k.toNat)) + evP (stS (gM w) (w 38 141 + w 38 143) (w 38 140 + w 38 142) k.toNat) (stS (gM w) (w 38 141 + w 38 143) (w 38 140 + w 38 142) (k.toNat + 1)) (npF (stS (gM w) (w 38 141 + w 38 143) (w 38 140 + w 38 142) k.toNat)) := hE
      omega
    · obtain ⟨w5, k1, k2, k3, k4⟩ := ih w4 f4 (by rw [d2, e55, es, bI_0 hE]; omega) (fun j hj hEj => by
        rw [d3, d4, d5, d6]
        by_cases hjk : j = k.toNat
        · rw [hjk] at hEj; exact absurd hEj hE
        · exact hR j (by omega) hEj)
      refine ⟨w5, d7 _ _ (fun _ => k1) (fun z => ?_), k2, k3, k4⟩
      exfalso
      refine hE ?_
      unfold EVk
      have b1 := sumI_nn (f := fun c => bI (chN (stS (gM w) (w 38 141 + w 38 143) (w 38 140 + w 38 142) k.toNat) (stS (gM w) (w 38 141 + w 38 143) (w 38 140 + w 38 142) (k.toNat + 1)) c = 0)) (a := 0) (b := npF (stS (gM w) (w 38 141 + w 38 143) (w 38 140 + w 38 142) k.toNat)) (fun c _ _ => (bI_01 _).1)
      have b2 := sumI_nn (f := fun c => bI (1 < chN (stS (gM w) (w 38 141 + w 38 143) (w 38 140 + w 38 142) k.toNat) (stS (gM w) (w 38 141 + w 38 143) (w 38 140 + w 38 142) (k.toNat + 1)) c)) (a := 0) (b := npF (stS (gM w) (w 38 141 + w 38 143) (w 38 140 + w 38 142) k.toNat)) (fun c _ _ => (bI_01 _).1)
      have b1' : 0 ≤ evE (stS (gM w) (w 38 141 + w 38 143) (w 38 140 + w 38 142) k.toNat) (stS (gM w) (w 38 141 + w 38 143) (w 38 140 + w 38 142) (k.toNat + 1)) (npF (stS (gM w) (w 38 141 + w 38 143) (w 38 140 + w 38 142) k.toNat)) := b1
      have b2' : 0 ≤ evP (stS (gM w) (w 38 141 + w 38 143) (w 38 140 + w 38 142) k.toNat) (stS (gM w) (w 38 141 + w 38 143) (w 38 140 + w 38 142) (k.toNat + 1)) (npF (stS (gM w) (w 38 141 + w 38 143) (w 38 140 + w 38 142) k.toNat)) := b2
      omega
