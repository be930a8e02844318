theorem tmK_I {w0 : eW} {ac dn x y : Int} (h : tmK w0 ac dn x y) : tmI (w0 53) (w0 33 46) ac dn x y := ⟨h.2.1, h.2.2.1, h.2.2.2⟩
theorem tmK_n {w0 : eW} {ac dn x y : Int} (h : tmK w0 ac dn x y) (hx : 1 ≤ x ∧ x ≤ 14) (hy : y ≤ 10) : 1 ≤ w0 33 46 ∧ w0 33 46 ≤ 24 := by
  obtain ⟨i, i1, i2, i3⟩ := h.2.2.2 (1 * dn) (Or.inl ⟨1, by omega, hx.1, rfl⟩)
  have := h.1
  omega
/-- lays at the k-th midst -/
theorem mdk (w : eW) (hM : MB w) (hsp : ∀ k, 140 ≤ k → k < 144 → 1 ≤ w 38 k ∧ w 38 k ≤ 9) (hW : 1 ≤ w 33 24) (hH : 1 ≤ w 33 25) (hK : tmK w (w 38 141 + w 38 143) (w 38 140 + w 38 142) (w 33 24) (w 33 25)) (h47 : w 33 47 = (w 38 141 + w 38 143) * (w 38 140 + w 38 142)) (k : Nat) (hk : (k : Int) ≤ w 33 46) :
    (0 ≤ (mdT (w 53) (w 33 46) k) ∧ (mdT (w 53) (w 33 46) k) ≤ 10000) ∧ (1 ≤ (2 * w 33 47) ∧ (2 * w 33 47) ≤ 10000) ∧ sT (gM w) (mX w (mdT (w 53) (w 33 46) k) (2 * w 33 47)) (mY w (mdT (w 53) (w 33 46) k) (2 * w 33 47)) = stS (gM w) (w 38 141 + w 38 143) (w 38 140 + w 38 142) k ∧ (evL (w 38 141 + w 38 143) (w 38 140 + w 38 142) (w 33 24) (w 33 25) k → (mX w (mdT (w 53) (w 33 46) k) (2 * w 33 47) = (evA (w 38 141 + w 38 143) (w 38 140 + w 38 142) k).1 ∧ mY w (mdT (w 53) (w 33 46) k) (2 * w 33 47) = (evA (w 38 141 + w 38 143) (w 38 140 + w 38 142) k).2) ∧ (0 < fX w (mdT (w 53) (w 33 46) k) (2 * w 33 47) ∧ 0 < fY w (mdT (w 53) (w 33 46) k) (2 * w 33 47))) := by
  obtain ⟨⟨c1, c2, c3, c4, c5, c6, c7, c8, c9, c10⟩, c11, c12, c13⟩ := id hM
  have s0 := hsp 140 (by decide) (by decide)
  have s1 := hsp 141 (by decide) (by decide)
  have s2 := hsp 142 (by decide) (by decide)
  have s3 := hsp 143 (by decide) (by decide)
  have hn := tmK_n hK (by omega) (by omega)
  have tb : ∀ i, 0 ≤ i → i < w 33 46 → 1 ≤ w 53 i ∧ w 53 i ≤ 252 := fun i z1 z2 => tmV_b (by omega) (by omega) (by omega) (by omega) (hK.2.2.1 i z1 z2)
  have pb : 0 ≤ (mdT (w 53) (w 33 46) k) ∧ (mdT (w 53) (w 33 46) k) ≤ 10000 := by
    unfold mdT
    split
    · have := tb 0 (by omega) (by omega); omega
    · split
      · have := tb (w 33 46 - 1) (by omega) (by omega); omega
      · have := tb (k - 1) (by omega) (by omega)
        have := tb k (by omega) (by omega)
        omega
  have hl : 1 * 1 ≤ (w 38 141 + w 38 143) * (w 38 140 + w 38 142) := Int.mul_le_mul (by omega) (by omega) (by omega) (by omega)
  have hl2 : (w 38 141 + w 38 143) * (w 38 140 + w 38 142) ≤ 18 * 18 := Int.mul_le_mul (by omega) (by omega) (by omega) (by omega)
  have eX : mX w (mdT (w 53) (w 33 46) k) (2 * w 33 47) = (mdT (w 53) (w 33 46) k) / (2 * (w 38 140 + w 38 142)) ∧ fX w (mdT (w 53) (w 33 46) k) (2 * w 33 47) = (w 38 141 + w 38 143) * ((mdT (w 53) (w 33 46) k) % (2 * (w 38 140 + w 38 142))) := by
    unfold mX fX
    rw [h47, ← Int.add_mul, Int.mul_left_comm 2, Int.mul_ediv_mul_of_pos _ _ (by omega), Int.mul_emod_mul_of_pos _ _ (by omega)]
    exact ⟨rfl, rfl⟩
  have eY : mY w (mdT (w 53) (w 33 46) k) (2 * w 33 47) = (mdT (w 53) (w 33 46) k) / (2 * (w 38 141 + w 38 143)) ∧ fY w (mdT (w 53) (w 33 46) k) (2 * w 33 47) = (w 38 140 + w 38 142) * ((mdT (w 53) (w 33 46) k) % (2 * (w 38 141 + w 38 143))) := by
    unfold mY fY
    rw [h47, ← Int.add_mul, Int.add_comm (w 38 142) (w 38 140), Int.mul_comm (w 38 141 + w 38 143) (w 38 140 + w 38 142), Int.mul_left_comm 2, Int.mul_ediv_mul_of_pos _ _ (by omega), Int.mul_emod_mul_of_pos _ _ (by omega)]
    exact ⟨rfl, rfl⟩
  refine ⟨pb, by omega, ?_, fun hL => ?_⟩
  · rw [eX.1, eY.1]
    exact st_md gM_in (tmK_I hK) (by omega) (by omega) ⟨hW, hH⟩ k hk pb.1
  · obtain ⟨h1, h2, h3, h4⟩ := ev_inv (ac := (w 38 141 + w 38 143)) (dn := (w 38 140 + w 38 142)) (by omega) (by omega) k
    have e := md_alive (tmK_I hK) (by omega) (by omega) k hL
    have lt := ev_lt (ac := (w 38 141 + w 38 143)) (dn := (w 38 140 + w 38 142)) (by omega) (by omega) k
    have d1 := md_div (d := (w 38 140 + w 38 142)) (by omega) e h2.1 lt (by rw [evT]; exact Int.min_le_left _ _)
    have d2 := md_div (d := (w 38 141 + w 38 143)) (by omega) e h3.1 lt (by rw [evT]; exact Int.min_le_right _ _)
    refine ⟨⟨by rw [eX.1]; exact d1.1, by rw [eY.1]; exact d2.1⟩, ?_, ?_⟩
    · rw [eX.2, d1.2.1]; exact Int.mul_pos (by omega) d1.2.2
    · rw [eY.2, d2.2.1]; exact Int.mul_pos (by omega) d2.2.2
/-- what laysUnder changes behind the times -/
def FrU (w w0 : eW) : Prop := Fr [33, 45, 46, 47, 48, 49, 50, 51, 52] w w0 ∧ ∀ i, i ≠ 42 → i ≠ 43 → i ≠ 44 → i ≠ 56 → i ≠ 57 → w0 33 i = w 33 i
theorem y_X8_laysUnder (wi : eW) (hMi : MB wi) (hspi : ∀ k, 140 ≤ k → k < 144 → 1 ≤ wi 38 k ∧ wi 38 k ≤ 9) (hWi : 1 ≤ wi 33 24) (hHi : 1 ≤ wi 33 25) : ∃ w1, Cal mX8_laysUnder [eR 33] wi none w1 ∧ Fr [33, 45, 46, 47, 48, 49, 50, 51, 52, 53] wi w1 ∧ (∀ i, i < 42 → w1 33 i = wi 33 i) ∧ w1 33 56 = rdA (unS (gM wi) (wi 38 141 + wi 38 143) (wi 38 140 + wi 38 142) 24) (6 * ((wi 38 141 + wi 38 143) * (wi 38 140 + wi 38 142)) * ((wi 38 141 + wi 38 143) * (wi 38 140 + wi 38 142)) * ((wi 38 141 + wi 38 143) * (wi 38 140 + wi 38 142))) ∧ w1 33 57 = rdB (unS (gM wi) (wi 38 141 + wi 38 143) (wi 38 140 + wi 38 142) 24) (6 * ((wi 38 141 + wi 38 143) * (wi 38 140 + wi 38 142)) * ((wi 38 141 + wi 38 143) * (wi 38 140 + wi 38 142)) * ((wi 38 141 + wi 38 143) * (wi 38 140 + wi 38 142))) := by
  obtain ⟨w, a1, a2, a3, a4, a5⟩ := y_X8_laysTimes wi hMi hspi
  have e38 : w 38 = wi 38 := a2 38 (by decide)
  have hM : MB w := MB_g e38 (a2 40 (by decide)) (fun i h1 h2 => a3 i (by omega) (by omega)) hMi
  have hsp : ∀ k, 140 ≤ k → k < 144 → 1 ≤ w 38 k ∧ w 38 k ≤ 9 := by rw [e38]; exact hspi
  have eg : gM w = gM wi := gM_g e38 (fun i h1 h2 => a3 i (by omega) (by omega))
  have h24 : w 33 24 = wi 33 24 := a3 24 (by decide) (by decide)
  have h25 : w 33 25 = wi 33 25 := a3 25 (by decide) (by decide)
  rw [← e38] at a4 a5
  rw [← h24, ← h25] at a5
  rw [← h24] at hWi
  rw [← h25] at hHi
  rw [← e38, ← eg]
  obtain ⟨⟨c1, c2, c3, c4, c5, c6, c7, c8, c9, c10⟩, c11, c12, c13⟩ := id hM
  have s0 := hsp 140 (by decide) (by decide)
  have s1 := hsp 141 (by decide) (by decide)
  have s2 := hsp 142 (by decide) (by decide)
  have s3 := hsp 143 (by decide) (by decide)
  have hn := tmK_n a5 (by omega) (by omega)
  have tb : ∀ i, 0 ≤ i → i < w 33 46 → 1 ≤ w 53 i ∧ w 53 i ≤ 252 := fun i z1 z2 => tmV_b (by omega) (by omega) (by omega) (by omega) (a5.2.2.1 i z1 z2)
  generalize hl0 : (w 38 141 + w 38 143) * (w 38 140 + w 38 142) = l at *
  have hl : 1 ≤ l ∧ l ≤ 324 := by
    rw [← hl0]
    have := Int.mul_le_mul (show (1 : Int) ≤ (w 38 141 + w 38 143) by omega) (show (1 : Int) ≤ (w 38 140 + w 38 142) by omega) (by omega) (by omega)
    have := Int.mul_le_mul (show (w 38 141 + w 38 143) ≤ 18 by omega) (show (w 38 140 + w 38 142) ≤ 18 by omega) (by omega) (by omega)
    omega
  have hlb : 0 < 6 * l * l * l ∧ 6 * l * l * l < 4611686018427387904 := by
    have m1 := Int.mul_le_mul hl.1 hl.1 (by omega) (by omega)
    have m2 := Int.mul_le_mul hl.2 hl.2 (by omega) (by omega)
    have m3 := Int.mul_le_mul m1 hl.1 (by omega) (by omega)
    have m4 := Int.mul_le_mul m2 hl.2 (by omega) (by omega)
    rw [show 6 * l * l * l = 6 * (l * l * l) by grind]
    omega
  have ub := fun (K : Int) (z : 0 ≤ K ∧ K ≤ 40) => unS_b (g := gM w) (ac := (w 38 141 + w 38 143)) (dn := (w 38 140 + w 38 142)) (by omega) (by omega) (W := w 33 24) (H := w 33 25) (by omega) (by omega) gM_in z
  have key := loop_up (P := fun k => ∀ w0, FrU w w0 → w0 33 56 = unS (gM w) (w 38 141 + w 38 143) (w 38 140 + w 38 142) k → w0 33 57 = 6 * l * l * l → ∃ w1, Go mX8_laysUnder 33 [(0, eR 33), (1, (1, l)), (3, (1, if k = 0 then 0 else w 53 (k - 1))), (5, (0, k))] [] w0 none w1 ∧ FrU w w1 ∧ w1 33 56 = rdA (unS (gM w) (w 38 141 + w 38 143) (w 38 140 + w 38 142) (w 33 46)) (6 * l * l * l) ∧ w1 33 57 = rdB (unS (gM w) (w 38 141 + w 38 143) (w 38 140 + w 38 142) (w 33 46)) (6 * l * l * l)) 0 (w 33 46) ?_ ?_ 0 (by omega) (by omega) (eU (eU w 33 56 0) 33 57 (6 * l * l * l)) ⟨(Fr.rf.put (by decide)).put (by decide), fun i z1 z2 z3 z4 z5 => by rw [eU_get, if_neg z5, eU_get, if_neg z4]⟩ (by rw [eU_get, if_neg (by decide), eU_get, if_pos rfl]; exact (sumI_self _ _).symm) (by rw [eU_get, if_pos rfl])
  · obtain ⟨w1, k1, k2, k3, k4⟩ := key
    rw [if_pos rfl] at k1
    have eU24 : unS (gM w) (w 38 141 + w 38 143) (w 38 140 + w 38 142) 24 = unS (gM w) (w 38 141 + w 38 143) (w 38 140 + w 38 142) (w 33 46) := by
      have hd : ¬ evL (w 38 141 + w 38 143) (w 38 140 + w 38 142) (w 33 24) (w 33 25) (w 33 46).toNat := fun z => by
        have := (tm_at (tmK_I a5) (by omega) (by omega) _ z).1
        omega
      have := unS_gone (st_dead gM_in (by omega) (by omega) hd) (K := 24) (by omega)
      rw [show (((w 33 46).toNat : Nat) : Int) = w 33 46 by omega] at this
      exact this
    rw [eU24]
    refine ⟨w1, Cal.of (by decide +kernel) (Nat.le_of_ble_eq_true rfl) (tX8_laysUnder_0 wi (by omega) a1 ?_), (a2.mono (by decide)).tr (k2.1.mono (by decide)), fun i hi => ?_, k3, k4⟩
    · rw [a4]; exact k1
    · rw [k2.2 i (by omega) (by omega) (by omega) (by omega) (by omega)]
      exact a3 i (by omega) (by omega)
  · intro w0 f0 e56 e57
    have e46 : w0 33 46 = w 33 46 := f0.2 46 (by decide) (by decide) (by decide) (by decide) (by decide)
    have u := ub (w 33 46) (by omega)
    refine ⟨eU (eU w0 33 56 (w0 33 56 / gI (w0 33 56) (w0 33 57))) 33 57 (w0 33 57 / gI (w0 33 56) (w0 33 57)), ?_, ⟨(f0.1.put (by decide)).put (by decide), fun i z1 z2 z3 z4 z5 => by rw [eU_get, if_neg z5, eU_get, if_neg z4]; exact f0.2 i z1 z2 z3 z4 z5⟩, ?_, ?_⟩
    · apply tX8_laysUnder_33 w0 _ _ _ (w1 := w0) (md := 0) (by omega) (by omega) (by rw [e56]; omega) (by rw [e57]; exact hlb) (fun z => absurd z (by omega)) (fun z => absurd z (by omega))
      · intro z; omega
      · intro _; exact ⟨rfl, rfl⟩
    · rw [eU_get, if_neg (by decide), eU_get, if_pos rfl, e56, e57]; rfl
    · rw [eU_get, if_pos rfl, e56, e57]; rfl
  · intro k hk1 hk2 ih w0 f0 e56 e57
    have g33 : ∀ i, i ≠ 42 → i ≠ 43 → i ≠ 44 → i ≠ 56 → i ≠ 57 → w0 33 i = w 33 i := f0.2
    have e46 : w0 33 46 = w 33 46 := f0.2 46 (by decide) (by decide) (by decide) (by decide) (by decide)
    have e47 : w0 33 47 = l := (f0.2 47 (by decide) (by decide) (by decide) (by decide) (by decide)).trans a4
    have e38' : w0 38 = w 38 := f0.1 38 (by decide)
    have e53 : w0 53 = w 53 := f0.1 53 (by decide)
    have hM0 : MB w0 := MB_g e38' (f0.1 40 (by decide)) (fun i z1 z2 => g33 i (by omega) (by omega) (by omega) (by omega) (by omega)) hM
    have eg0 : gM w0 = gM w := gM_g e38' (fun i z1 z2 => g33 i (by omega) (by omega) (by omega) (by omega) (by omega))
    have e24 : w0 33 24 = w 33 24 := g33 24 (by decide) (by decide) (by decide) (by decide) (by decide)
    have e25 : w0 33 25 = w 33 25 := g33 25 (by decide) (by decide) (by decide) (by decide) (by decide)
    have hK0 : tmK w0 (w0 38 141 + w0 38 143) (w0 38 140 + w0 38 142) (w0 33 24) (w0 33 25) := by
      unfold tmK
      rw [e38', e24, e25, e46, e53]
      exact a5
    have hsp0 : ∀ k, 140 ≤ k → k < 144 → 1 ≤ w0 38 k ∧ w0 38 k ≤ 9 := by rw [e38']; exact hsp
    obtain ⟨m1, m2, m3, m4⟩ := mdk w0 hM0 hsp0 (by omega) (by omega) hK0 (by rw [e47, e38', hl0]) k.toNat (by omega)
    rw [show ((k.toNat : Nat) : Int) = k by omega] at m1 m3 m4
    obtain ⟨w1, sX, iX, sY, iY, np, b1, b2⟩ := y_X8_lays w0 (mdT (w0 53) (w0 33 46) k) (2 * w0 33 47) hM0 hsp0 m1 m2
    have mid := y_X8_midst w0 k (by omega) (by omega)
    have fl := b2.1
    have h153 : w1 53 = w 53 := (fl.1 53 (by decide)).trans e53
    have h156 : w1 33 56 = unS (gM w) (w 38 141 + w 38 143) (w 38 140 + w 38 142) k := (fl.2 56 (by decide) (by decide) (by decide)).trans e56
    have h157 : w1 33 57 = 6 * l * l * l := (fl.2 57 (by decide) (by decide) (by decide)).trans e57
    have ft : FrU w w1 := ⟨f0.1.tr fl.1, fun i z1 z2 z3 z4 z5 => (fl.2 i z1 z2 z3).trans (f0.2 i z1 z2 z3 z4 z5)⟩
    have tk := tb k hk1 hk2
    have hS : sT (gM w0) (mX w0 (mdT (w0 53) (w0 33 46) k) (2 * w0 33 47)) (mY w0 (mdT (w0 53) (w0 33 46) k) (2 * w0 33 47)) = stS (gM w) (w 38 141 + w 38 143) (w 38 140 + w 38 142) k.toNat := by rw [m3, eg0, e38']
    have hal : (∀ x y, ¬ sT (gM w0) (mX w0 (mdT (w0 53) (w0 33 46) k) (2 * w0 33 47)) (mY w0 (mdT (w0 53) (w0 33 46) k) (2 * w0 33 47)) x y) ∨ (0 < fX w0 (mdT (w0 53) (w0 33 46) k) (2 * w0 33 47) ∧ 0 < fY w0 (mdT (w0 53) (w0 33 46) k) (2 * w0 33 47)) := by
      by_cases hL : evL (w 38 141 + w 38 143) (w 38 140 + w 38 142) (w 33 24) (w 33 25) k.toNat
      · right
        exact (m4 (by rw [e38', e24, e25]; exact hL)).2
      · left
        rw [hS]
        exact st_dead gM_in (by omega) (by omega) hL
    have step := fun (r : Option eV) (w9 : eW) (hgo : _) => y_underK hM0 hsp0 m1 m2 b2 hal l (if k = 0 then 0 else w 53 (k - 1)) k (by omega) (by rw [h153]; omega) r w9 hgo
    rw [hS, e38', h153, h156] at step
    -- the value then
    have val : unS (gM w) (w 38 141 + w 38 143) (w 38 140 + w 38 142) k + (6 * l * l * pwU (stS (gM w) (w 38 141 + w 38 143) (w 38 140 + w 38 142) k.toNat) (mX w0 (mdT (w0 53) (w0 33 46) k) (2 * w0 33 47)) (mY w0 (mdT (w0 53) (w0 33 46) k) (2 * w0 33 47)) * (w 53 k - (if k = 0 then 0 else w 53 (k - 1))) + 3 * l * poU (stS (gM w) (w 38 141 + w 38 143) (w 38 140 + w 38 142) k.toNat) (mX w0 (mdT (w0 53) (w0 33 46) k) (2 * w0 33 47)) (mY w0 (mdT (w0 53) (w0 33 46) k) (2 * w0 33 47)) (w 38 141 + w 38 143) (w 38 140 + w 38 142) * (w 53 k * w 53 k - (if k = 0 then 0 else w 53 (k - 1)) * (if k = 0 then 0 else w 53 (k - 1))) + 2 * ptU (stS (gM w) (w 38 141 + w 38 143) (w 38 140 + w 38 142) k.toNat) (w 38 141 + w 38 143) (w 38 140 + w 38 142) * (w 53 k * w 53 k * w 53 k - (if k = 0 then 0 else w 53 (k - 1)) * (if k = 0 then 0 else w 53 (k - 1)) * (if k = 0 then 0 else w 53 (k - 1)))) = unS (gM w) (w 38 141 + w 38 143) (w 38 140 + w 38 142) (k + 1) := by
      have es : unS (gM w) (w 38 141 + w 38 143) (w 38 140 + w 38 142) (k + 1) = unS (gM w) (w 38 141 + w 38 143) (w 38 140 + w 38 142) k + unK (gM w) (w 38 141 + w 38 143) (w 38 140 + w 38 142) k.toNat := sumI_succ _ hk1
      rw [es]
      congr 1
      by_cases hL : evL (w 38 141 + w 38 143) (w 38 140 + w 38 142) (w 33 24) (w 33 25) k.toNat
      · obtain ⟨⟨n1, n2⟩, _⟩ := m4 (by rw [e38', e24, e25]; exact hL)
        rw [e38'] at n1 n2
        have t1 := (tm_at (tmK_I a5) (by omega) (by omega) _ hL).2
        rw [show ((k.toNat : Nat) : Int) = k by omega] at t1
        have t0 : (if k = 0 then 0 else w 53 (k - 1)) = evT (w 38 141 + w 38 143) (w 38 140 + w 38 142) k.toNat := by
          by_cases h0 : k = 0
          · rw [if_pos h0, h0]; rfl
          · rw [if_neg h0]
            obtain ⟨j, hj⟩ : ∃ j : Nat, k.toNat = j + 1 := ⟨k.toNat - 1, by omega⟩
            rw [hj] at hL ⊢
            have := (tm_at (tmK_I a5) (by omega) (by omega) _ (evL_dn hL)).2
            rw [show (j : Int) = k - 1 by omega] at this
            exact this
        rw [n1, n2, t0, t1]
        unfold unK tmU
        rw [hl0]
      · have hz := st_dead (g := gM w) gM_in (by omega) (by omega) hL
        have z1 := tmU_none hz (mX w0 (mdT (w0 53) (w0 33 46) k) (2 * w0 33 47)) (mY w0 (mdT (w0 53) (w0 33 46) k) (2 * w0 33 47)) (w 38 141 + w 38 143) (w 38 140 + w 38 142) 0 0
        have z2 : unK (gM w) (w 38 141 + w 38 143) (w 38 140 + w 38 142) k.toNat = 0 := (tmU_none hz _ _ _ _ _ _).2.2.2
        rw [z1.1, z1.2.1, z1.2.2.1, z2]
        simp
    rw [val] at step
    obtain ⟨w2, k1, k2, k3, k4⟩ := ih (eU w1 33 56 (unS (gM w) (w 38 141 + w 38 143) (w 38 140 + w 38 142) (k + 1))) ⟨ft.1.put (by decide), fun i z1 z2 z3 z4 z5 => by rw [eU_get, if_neg z4]; exact ft.2 i z1 z2 z3 z4 z5⟩ (by rw [eU_get, if_pos rfl]) (by rw [eU_get, if_neg (by decide)]; exact h157)
    rw [if_neg (show ¬ k + 1 = 0 by omega), show k + 1 - 1 = k by omega] at k1
    refine ⟨w2, ?_, k2, k3, k4⟩
    have u := ub k (by omega)
    apply tX8_laysUnder_33 w0 _ _ _ (by omega) (by omega) (by rw [e56]; omega) (by rw [e57]; exact hlb) (fun _ => mid) (fun _ => b1)
    · intro _; exact step _ _ k1
    · intro z; omega
