theorem md_le {f : Int → Int} {n : Int} (hs : srt f n) (hf : ∀ i, 0 ≤ i → i < n → 1 ≤ f i) {k : Int} (hk : 0 ≤ k ∧ k < n) : mdT f n k ≤ mdT f n (k + 1) := by
  have f0 := hf k hk.1 hk.2
  unfold mdT
  rw [if_neg (show ¬ k + 1 = 0 by omega)]
  by_cases h0 : k = 0
  · rw [if_pos h0]
    by_cases h1 : k + 1 = n
    · rw [if_pos h1, ← h1, show k + 1 - 1 = k by omega, h0]
      rw [h0] at f0; omega
    · rw [if_neg h1, show k + 1 - 1 = k by omega]
      have := hf (k + 1) (by omega) (by omega)
      rw [h0] at *
      omega
  · rw [if_neg h0, if_neg (by omega)]
    have a1 := hs (k - 1) (by omega) (by omega)
    rw [show k - 1 + 1 = k by omega] at a1
    by_cases h1 : k + 1 = n
    · rw [if_pos h1, ← h1, show k + 1 - 1 = k by omega]; omega
    · rw [if_neg h1, show k + 1 - 1 = k by omega]
      have := hs k (by omega) (by omega)
      omega
/-- what laysEvents changes behind the times -/
def FrE (w w0 : eW) : Prop := Fr [33, 45, 46, 47, 48, 49, 50, 51, 52, 54, 55, 56, 57, 58, 59, 60] w w0 ∧ ∀ i, i ≠ 42 → i ≠ 43 → i ≠ 44 → i ≠ 55 → w0 33 i = w 33 i
/-- the model's entries of the events ahead of the span K -/
def evM (g : Int → Int → Int) (ac dn : Int) (w0 : eW) (K : Int) : Prop := ∀ k : Nat, (k : Int) < K → EVk g ac dn k → w0 54 (evN g ac dn k) = evT ac dn (k + 1) ∧ w0 55 (evN g ac dn k) = evE (stS g ac dn k) (stS g ac dn (k + 1)) (npF (stS g ac dn k)) ∧ w0 56 (evN g ac dn k) = evP (stS g ac dn k) (stS g ac dn (k + 1)) (npF (stS g ac dn k)) ∧ w0 57 (evN g ac dn k) = npF (stS g ac dn (k + 1))
theorem y_evSpan (w : eW) (hM : MB w) (hsp : ∀ k, 140 ≤ k → k < 144 → 1 ≤ w 38 k ∧ w 38 k ≤ 9) (hW : 1 ≤ w 33 24) (hH : 1 ≤ w 33 25) (hK : tmK w (w 38 141 + w 38 143) (w 38 140 + w 38 142) (w 33 24) (w 33 25)) (h47 : w 33 47 = (w 38 141 + w 38 143) * (w 38 140 + w 38 142)) (k : Int) (hk : 0 ≤ k ∧ k < w 33 46) (h55 : 0 ≤ w 33 55 ∧ w 33 55 < 32) : ∃ w4, FrE w w4 ∧ w4 33 55 = w 33 55 ∧ w4 54 = w 54 ∧ w4 55 = w 55 ∧ w4 56 = w 56 ∧ w4 57 = w 57 ∧ ∀ (r : Option eV) (w9 : eW), (evE (stS (gM w) (w 38 141 + w 38 143) (w 38 140 + w 38 142) k.toNat) (stS (gM w) (w 38 141 + w 38 143) (w 38 140 + w 38 142) (k.toNat + 1)) (npF (stS (gM w) (w 38 141 + w 38 143) (w 38 140 + w 38 142) k.toNat)) + evP (stS (gM w) (w 38 141 + w 38 143) (w 38 140 + w 38 142) k.toNat) (stS (gM w) (w 38 141 + w 38 143) (w 38 140 + w 38 142) (k.toNat + 1)) (npF (stS (gM w) (w 38 141 + w 38 143) (w 38 140 + w 38 142) k.toNat)) = 0 → Go mX8_laysEvents 11 [(0, eR 33), (1, (0, k + 1))] [] w4 r w9) → (¬ evE (stS (gM w) (w 38 141 + w 38 143) (w 38 140 + w 38 142) k.toNat) (stS (gM w) (w 38 141 + w 38 143) (w 38 140 + w 38 142) (k.toNat + 1)) (npF (stS (gM w) (w 38 141 + w 38 143) (w 38 140 + w 38 142) k.toNat)) + evP (stS (gM w) (w 38 141 + w 38 143) (w 38 140 + w 38 142) k.toNat) (stS (gM w) (w 38 141 + w 38 143) (w 38 140 + w 38 142) (k.toNat + 1)) (npF (stS (gM w) (w 38 141 + w 38 143) (w 38 140 + w 38 142) k.toNat)) = 0 → Go mX8_laysEvents 11 [(0, eR 33), (1, (0, k + 1))] [] (eU (eU (eU (eU (eU w4 54 (w4 33 55) (w4 53 k)) 55 (w4 33 55) (evE (stS (gM w) (w 38 141 + w 38 143) (w 38 140 + w 38 142) k.toNat) (stS (gM w) (w 38 141 + w 38 143) (w 38 140 + w 38 142) (k.toNat + 1)) (npF (stS (gM w) (w 38 141 + w 38 143) (w 38 140 + w 38 142) k.toNat)))) 56 (w4 33 55) (evP (stS (gM w) (w 38 141 + w 38 143) (w 38 140 + w 38 142) k.toNat) (stS (gM w) (w 38 141 + w 38 143) (w 38 140 + w 38 142) (k.toNat + 1)) (npF (stS (gM w) (w 38 141 + w 38 143) (w 38 140 + w 38 142) k.toNat)))) 57 (w4 33 55) (npF (stS (gM w) (w 38 141 + w 38 143) (w 38 140 + w 38 142) (k.toNat + 1)))) 33 55 (w4 33 55 + 1)) r w9) → Go mX8_laysEvents 11 [(0, eR 33), (1, (0, k))] [] w r w9 := by
  obtain ⟨⟨c1, c2, c3, c4, c5, c6, c7, c8, c9, c10⟩, c11, c12, c13⟩ := id hM
  have hn := tmK_n hK (by omega) (by omega)
  have tb : ∀ i, 0 ≤ i → i < w 33 46 → 1 ≤ w 53 i ∧ w 53 i ≤ 252 := fun i z1 z2 => by
    have s0 := hsp 140 (by decide) (by decide)
    have s1 := hsp 141 (by decide) (by decide)
    have s2 := hsp 142 (by decide) (by decide)
    have s3 := hsp 143 (by decide) (by decide)
    exact tmV_b (by omega) (by omega) (by omega) (by omega) (hK.2.2.1 i z1 z2)
  -- behind
  obtain ⟨m1, m2, m3, m4⟩ := mdk w hM hsp hW hH hK h47 (k.toNat + 1) (by omega)
  rw [show ((k.toNat + 1 : Nat) : Int) = k + 1 by omega] at m1 m3 m4
  obtain ⟨w1, sX', iX', sY', iY', n', a1, a2⟩ := y_X8_lays w (mdT (w 53) (w 33 46) (k + 1)) (2 * w 33 47) hM hsp m1 m2
  have mid1 := y_X8_midst w (k + 1) (by omega) (by omega)
  obtain ⟨w2, b1, b2, b3⟩ := y_evSamples hM hsp m1 m2 a2 k (w1 33 44)
  have fl1 := a2.1
  have g2 : ∀ i, i ≠ 42 → i ≠ 43 → i ≠ 44 → w2 33 i = w 33 i := fun i z1 z2 z3 => by rw [b1.at 33 (by decide)]; exact fl1.2 i z1 z2 z3
  have e38 : w2 38 = w 38 := by rw [b1 38 (by decide), fl1.1 38 (by decide)]
  have e40 : w2 40 = w 40 := by rw [b1 40 (by decide), fl1.1 40 (by decide)]
  have e53 : w2 53 = w 53 := by rw [b1 53 (by decide), fl1.1 53 (by decide)]
  have e24 : w2 33 24 = w 33 24 := g2 24 (by decide) (by decide) (by decide)
  have e25 : w2 33 25 = w 33 25 := g2 25 (by decide) (by decide) (by decide)
  have e46 : w2 33 46 = w 33 46 := g2 46 (by decide) (by decide) (by decide)
  have e47 : w2 33 47 = w 33 47 := g2 47 (by decide) (by decide) (by decide)
  have hM2 : MB w2 := MB_g e38 e40 (fun i z1 z2 => g2 i (by omega) (by omega) (by omega)) hM
  have eg2 : gM w2 = gM w := gM_g e38 (fun i z1 z2 => g2 i (by omega) (by omega) (by omega))
  have hsp2 : ∀ k, 140 ≤ k → k < 144 → 1 ≤ w2 38 k ∧ w2 38 k ≤ 9 := by rw [e38]; exact hsp
  have hK2 : tmK w2 (w2 38 141 + w2 38 143) (w2 38 140 + w2 38 142) (w2 33 24) (w2 33 25) := by
    unfold tmK
    rw [e38, e24, e25, e46, e53]
    exact hK
  -- ahead
  obtain ⟨q1, q2, q3, q4⟩ := mdk w2 hM2 hsp2 (by omega) (by omega) hK2 (by rw [e47, e38]; exact h47) k.toNat (by omega)
  rw [show ((k.toNat : Nat) : Int) = k by omega] at q1 q3 q4
  obtain ⟨w3, sX, iX, sY, iY, n, d1, d2⟩ := y_X8_lays w2 (mdT (w2 53) (w2 33 46) k) (2 * w2 33 47) hM2 hsp2 q1 q2
  have mid2 := y_X8_midst w2 k (by omega) (by omega)
  have fl3 := d2.1
  have bd3 := lay_b hM2 hsp2 q1 q2 d2
  have dd3 := lay_d hM2 hsp2 q1 q2 d2
  have bd1 := lay_b hM hsp m1 m2 a2
  have dd1 := lay_d hM hsp m1 m2 a2
  obtain ⟨l1, l2, l3, l4, l5, l6, l7, l8, l9⟩ := id d2
  obtain ⟨v1, v2, v3, v4, v5, v6, v7, v8, v9⟩ := id a2
  have hS : sT (gM w2) (mX w2 (mdT (w2 53) (w2 33 46) k) (2 * w2 33 47)) (mY w2 (mdT (w2 53) (w2 33 46) k) (2 * w2 33 47)) = (stS (gM w) (w 38 141 + w 38 143) (w 38 140 + w 38 142) k.toNat) := by rw [q3, eg2, e38]
  have hS2 : sT (gM w) (mX w (mdT (w 53) (w 33 46) (k + 1)) (2 * w 33 47)) (mY w (mdT (w 53) (w 33 46) (k + 1)) (2 * w 33 47)) = (stS (gM w) (w 38 141 + w 38 143) (w 38 140 + w 38 142) (k.toNat + 1)) := m3
  have hsupS : sup 14 10 (stS (gM w) (w 38 141 + w 38 143) (w 38 140 + w 38 142) k.toNat) := by rw [← hS]; exact dd3.2.2.2
  have hsupS2 : sup 14 10 (stS (gM w) (w 38 141 + w 38 143) (w 38 140 + w 38 142) (k.toNat + 1)) := by rw [← hS2]; exact dd1.2.2.2
  have enS : npF (stS (gM w) (w 38 141 + w 38 143) (w 38 140 + w 38 142) k.toNat) = n := by rw [← hS]; exact npF_is l7
  have enS2 : npF (stS (gM w) (w 38 141 + w 38 143) (w 38 140 + w 38 142) (k.toNat + 1)) = n' := by rw [← hS2]; exact npF_is v7
  have hn1 : (n : Int) ≤ 140 := by have := (npF_sup hsupS).2; omega
  have hn2 : (n' : Int) ≤ 140 := by have := (npF_sup hsupS2).2; omega
  have hle : mdT (w2 53) (w2 33 46) k ≤ mdT (w 53) (w 33 46) (k + 1) := by rw [e53, e46]; exact md_le hK.2.1 (fun i z1 z2 => (tb i z1 z2).1) hk
  -- where a sample lies
  have place : ∀ (w5 : eW), Fr [60] w3 w5 → ∀ e : Int, 0 ≤ e → e < n' → ∃ PX PY, (0 ≤ PX ∧ PX < 30) ∧ (0 ≤ PY ∧ PY < 30) ∧ (0 ≤ w3 51 (30 * PY + PX) ∧ w3 51 (30 * PY + PX) < n) ∧ (∀ c : Int, 0 ≤ c → c < n → (w3 51 (30 * PY + PX) = c ↔ mnQ (itr (stS (gM w) (w 38 141 + w 38 143) (w 38 140 + w 38 142) (k.toNat + 1)) e.toNat) (pc (itr (stS (gM w) (w 38 141 + w 38 143) (w 38 140 + w 38 142) k.toNat) c.toNat)))) ∧ Cal mX8_placeIn [eR 45, (0, w5 33 42), (0, w5 58 e)] w5 (some (0, PX)) w5 ∧ Cal mX8_placeIn [eR 48, (0, w5 33 43), (0, w5 59 e)] w5 (some (0, PY)) w5 := by
    intro w5 f5 e he1 he2
    obtain ⟨a, b, r1, r2, r3, r4, r5, r6, r7⟩ := b2 e he1 he2
    have hlf' := (v9 a b r1 r2 r3 r4).2.1.mpr (by omega)
    have hpc' := ((v9 a b r1 r2 r3 r4).2.2 e.toNat (by omega)).mp (by omega)
    rw [lf_pc v5.2.1 v6.2.1, hS2] at hpc'
    have h58 : w5 58 e = w1 45 a + w1 45 (a + 1) := by rw [f5 58 (by decide), fl3.1 58 (by decide)]; exact r6
    have h59 : w5 59 e = w1 48 b + w1 48 (b + 1) := by rw [f5 59 (by decide), fl3.1 59 (by decide)]; exact r7
    have x1 := bd1.1 a r1 (by omega)
    have x2 := bd1.1 (a + 1) (by omega) (by omega)
    have y1 := bd1.2 b r3 (by omega)
    have y2 := bd1.2 (b + 1) (by omega) (by omega)
    have e45 : w5 45 = w3 45 := f5 45 (by decide)
    have e48 : w5 48 = w3 48 := f5 48 (by decide)
    have e33 : w5 33 = w3 33 := f5 33 (by decide)
    -- at least two lines
    have two : 2 ≤ w3 33 42 ∧ 2 ≤ w3 33 43 := by
      obtain ⟨⟨i, i1, i2, i3⟩, _⟩ := l3.2.2.2 0 (by omega) (by omega)
      obtain ⟨⟨i', i4, i5, i6⟩, _⟩ := l3.2.2.2 1 (by omega) (by omega)
      obtain ⟨⟨j, j1, j2, j3⟩, _⟩ := l4.2.2.2 0 (by omega) (by omega)
      obtain ⟨⟨j', j4, j5, j6⟩, _⟩ := l4.2.2.2 1 (by omega) (by omega)
      refine ⟨?_, ?_⟩
      · have : i ≠ i' := fun z => by rw [z, i6] at i3; omega
        omega
      · have : j ≠ j' := fun z => by rw [z, j6] at j3; omega
        omega
    obtain ⟨PX, p1, p2, p3, p4⟩ := y_X8_placeIn45 w5 (w5 33 42) (w5 58 e) (by rw [e33]; omega) (by rw [h58]; omega) (by rw [e45, e33]; exact bd3.1)
    obtain ⟨PY, t1, t2, t3, t4⟩ := y_X8_placeIn48 w5 (w5 33 43) (w5 59 e) (by rw [e33]; omega) (by rw [h59]; omega) (by rw [e48, e33]; exact bd3.2)
    have p2' := p2
    have t2' := t2
    rw [e33] at p2 t2
    rw [e45, h58] at p3
    rw [e45, h58, e33] at p4
    rw [e48, h59] at t3
    rw [e48, h59, e33] at t4
    have eq47 : 2 * w2 33 47 = 2 * w 33 47 := by rw [e47]
    rw [eq47] at d2 hS l9 l5 l6 q2
    obtain ⟨g1, g2, g3⟩ := lay_place hM2 hsp2 q1 m1 hle q2 d2 e38.symm e24.symm e25.symm hM a2 (by rw [eg2, show mX w2 (mdT (w 53) (w 33 46) (k + 1)) (2 * w 33 47) = mX w (mdT (w 53) (w 33 46) (k + 1)) (2 * w 33 47) by unfold mX; rw [e38], show mY w2 (mdT (w 53) (w 33 46) (k + 1)) (2 * w 33 47) = mY w (mdT (w 53) (w 33 46) (k + 1)) (2 * w 33 47) by unfold mY; rw [e38]]; exact hlf') p2 p3 p4 t2 t3 t4
    have hlab := l9 PX PY p2.1 (by omega) t2.1 (by omega)
    have hpos := hlab.2.1.mp g1
    rw [hS] at g1 g2 g3
    refine ⟨PX, PY, by omega, by omega, by omega, fun c hc1 hc2 => ?_, p1, t1⟩
    have hlc := hlab.2.2 c.toNat (by omega)
    rw [lf_pc l5.2.1 l6.2.1, hS, show ((c.toNat : Nat) : Int) = c by omega] at hlc
    rw [hlc]
    -- the first cell of the later piece
    obtain ⟨u, v, hmn, hcn⟩ := hpc'.2
    have hcS : cn (stS (gM w) (w 38 141 + w 38 143) (w 38 140 + w 38 142) k.toNat) u v (bq sX' iX' a) (bq sY' iY' b) := cn_mono (fun x y z => st_sub _ x y (itr_sub e.toNat x y z)) hcn
    have huS : (stS (gM w) (w 38 141 + w 38 143) (w 38 140 + w 38 142) k.toNat) u v := st_sub _ u v (itr_sub e.toNat u v hmn.1)
    constructor
    · intro z
      refine ⟨u, v, hmn, pc_cn c.toNat (pc_cn c.toNat z.2 (cn_sy g3 g2)) (cn_sy huS hcS)⟩
    · rintro ⟨u', v', hmn', z⟩
      obtain ⟨rfl, rfl⟩ := isMn_one hmn hmn'
      exact ⟨g1, pc_cn c.toNat (pc_cn c.toNat z hcS) g2⟩
  -- no children
  have zero := loop_up (P := fun c => ∀ w5, Fr [60] w3 w5 → (∀ j, 0 ≤ j → j < c → w5 60 j = 0) → ∃ w6, Fr [60] w3 w6 ∧ (∀ j : Int, 0 ≤ j → j < n → w6 60 j = 0) ∧ ∀ (r : Option eV) (w9 : eW), Go mX8_laysEvents 132 [(0, eR 33), (1, (0, k)), (2, (0, (n' : Int))), (3, (0, (n : Int))), (4, (0, 0))] [] w6 r w9 → Go mX8_laysEvents 109 [(0, eR 33), (1, (0, k)), (2, (0, (n' : Int))), (3, (0, (n : Int))), (4, (0, c))] [] w5 r w9) 0 n ?_ ?_ 0 (by omega) (by omega) w3 Fr.rf (fun j z1 z2 => by omega)
  · obtain ⟨w6, z1, z2, z3⟩ := zero
    have cnt := loop_up (P := fun e => ∀ w5, Fr [60] w3 w5 → (∀ c : Int, 0 ≤ c → c < n → w5 60 c = sumI (fun i => bI (mnQ (itr (stS (gM w) (w 38 141 + w 38 143) (w 38 140 + w 38 142) (k.toNat + 1)) i.toNat) (pc (itr (stS (gM w) (w 38 141 + w 38 143) (w 38 140 + w 38 142) k.toNat) c.toNat)))) 0 e) → ∃ w7, Fr [60] w3 w7 ∧ (∀ c : Int, 0 ≤ c → c < n → w7 60 c = chN (stS (gM w) (w 38 141 + w 38 143) (w 38 140 + w 38 142) k.toNat) (stS (gM w) (w 38 141 + w 38 143) (w 38 140 + w 38 142) (k.toNat + 1)) c) ∧ ∀ (r : Option eV) (w9 : eW), Go mX8_laysEvents 207 [(0, eR 33), (1, (0, k)), (2, (0, (n' : Int))), (3, (0, (n : Int))), (4, (0, 0)), (5, (0, 0)), (6, (0, 0))] [] w7 r w9 → Go mX8_laysEvents 132 [(0, eR 33), (1, (0, k)), (2, (0, (n' : Int))), (3, (0, (n : Int))), (4, (0, e))] [] w5 r w9) 0 n' ?_ ?_ 0 (by omega) (by omega) w6 z1 (fun c c1 c2 => by rw [sumI_self]; exact z2 c c1 c2)
    · obtain ⟨w7, y1, y2, y3⟩ := cnt
      have f7 : FrE w w7 := by
        refine ⟨?_, fun i x1 x2 x3 x4 => ?_⟩
        · exact ((((fl1.1.mono (by decide)).tr (b1.mono (by decide))).tr (fl3.1.mono (by decide))).tr (y1.mono (by decide)))
        · rw [y1.at 33 (by decide), fl3.2 i x1 x2 x3, g2 i x1 x2 x3]
      have cell : ∀ o : Nat, o ∉ [33, 45, 46, 47, 48, 49, 50, 51, 52] → o ∉ [58, 59] → o ∉ [60] → w7 o = w o := fun o x1 x2 x3 => by rw [y1 o x3, fl3.1 o x1, b1 o x2, fl1.1 o x1]
      have h755 : w7 33 55 = w 33 55 := by rw [y1.at 33 (by decide), fl3.2 55 (by decide) (by decide) (by decide), g2 55 (by decide) (by decide) (by decide)]
      refine ⟨w7, f7, h755, cell 54 (by decide) (by decide) (by decide), cell 55 (by decide) (by decide) (by decide), cell 56 (by decide) (by decide) (by decide), cell 57 (by decide) (by decide) (by decide), fun r w9 k1 k2 => ?_⟩
      rw [enS] at k1
      rw [enS, enS2] at k2
      -- ends and splits
      have fin := loop_up (P := fun c => Go mX8_laysEvents 207 [(0, eR 33), (1, (0, k)), (2, (0, (n' : Int))), (3, (0, (n : Int))), (4, (0, evE (stS (gM w) (w 38 141 + w 38 143) (w 38 140 + w 38 142) k.toNat) (stS (gM w) (w 38 141 + w 38 143) (w 38 140 + w 38 142) (k.toNat + 1)) c)), (5, (0, evP (stS (gM w) (w 38 141 + w 38 143) (w 38 140 + w 38 142) k.toNat) (stS (gM w) (w 38 141 + w 38 143) (w 38 140 + w 38 142) (k.toNat + 1)) c)), (6, (0, c))] [] w7 r w9) 0 n ?_ ?_ 0 (by omega) (by omega)
      · have e0 : evE (stS (gM w) (w 38 141 + w 38 143) (w 38 140 + w 38 142) k.toNat) (stS (gM w) (w 38 141 + w 38 143) (w 38 140 + w 38 142) (k.toNat + 1)) 0 = 0 ∧ evP (stS (gM w) (w 38 141 + w 38 143) (w 38 140 + w 38 142) k.toNat) (stS (gM w) (w 38 141 + w 38 143) (w 38 140 + w 38 142) (k.toNat + 1)) 0 = 0 := ⟨sumI_self _ _, sumI_self _ _⟩
        rw [e0.1, e0.2] at fin
        apply tX8_laysEvents_11 w k (by omega) (by omega) (fun _ => mid1) (fun _ => a1)
        · intro _
          refine b3 r w9 ?_
          have e233 : w2 33 = w1 33 := b1 33 (by decide)
          apply tX8_laysEvents_43 w2 k _ _ (by rw [e233]; exact v2.1) (by omega) (fun _ => mid2) (fun _ => d1)
          · intro z; rw [e233] at z; omega
          · intro _
            rw [v8, l8]
            exact z3 r w9 (y3 r w9 fin)
        · intro z; omega
      · have b1 := ev_cb (f := fun c => chN (stS (gM w) (w 38 141 + w 38 143) (w 38 140 + w 38 142) k.toNat) (stS (gM w) (w 38 141 + w 38 143) (w 38 140 + w 38 142) (k.toNat + 1)) c = 0) (n := (n : Int)) (by omega)
        have b2 := ev_cb (f := fun c => 1 < chN (stS (gM w) (w 38 141 + w 38 143) (w 38 140 + w 38 142) k.toNat) (stS (gM w) (w 38 141 + w 38 143) (w 38 140 + w 38 142) (k.toNat + 1)) c) (n := (n : Int)) (by omega)
        apply tX8_laysEvents_207 w7 _ _ _ _ _ _ (by omega) (by omega) (by omega) (by unfold evE; omega) (by unfold evP; omega) (by omega) (fun z => absurd z (by omega))
        · intro z; omega
        · intro z; omega
        · intro z; omega
        · intro z; omega
        · intro _ z; exact k1 z
        · intro _ z; exact k2 z
      · intro c hc1 hc2 ihc
        have x1 : evE (stS (gM w) (w 38 141 + w 38 143) (w 38 140 + w 38 142) k.toNat) (stS (gM w) (w 38 141 + w 38 143) (w 38 140 + w 38 142) (k.toNat + 1)) (c + 1) = evE (stS (gM w) (w 38 141 + w 38 143) (w 38 140 + w 38 142) k.toNat) (stS (gM w) (w 38 141 + w 38 143) (w 38 140 + w 38 142) (k.toNat + 1)) c + bI (chN (stS (gM w) (w 38 141 + w 38 143) (w 38 140 + w 38 142) k.toNat) (stS (gM w) (w 38 141 + w 38 143) (w 38 140 + w 38 142) (k.toNat + 1)) c = 0) := sumI_succ _ hc1
        have x2 : evP (stS (gM w) (w 38 141 + w 38 143) (w 38 140 + w 38 142) k.toNat) (stS (gM w) (w 38 141 + w 38 143) (w 38 140 + w 38 142) (k.toNat + 1)) (c + 1) = evP (stS (gM w) (w 38 141 + w 38 143) (w 38 140 + w 38 142) k.toNat) (stS (gM w) (w 38 141 + w 38 143) (w 38 140 + w 38 142) (k.toNat + 1)) c + bI (1 < chN (stS (gM w) (w 38 141 + w 38 143) (w 38 140 + w 38 142) k.toNat) (stS (gM w) (w 38 141 + w 38 143) (w 38 140 + w 38 142) (k.toNat + 1)) c) := sumI_succ _ hc1
        rw [x1, x2] at ihc
        have b1 := ev_cb (f := fun c => chN (stS (gM w) (w 38 141 + w 38 143) (w 38 140 + w 38 142) k.toNat) (stS (gM w) (w 38 141 + w 38 143) (w 38 140 + w 38 142) (k.toNat + 1)) c = 0) (n := c) (by omega)
        have b2 := ev_cb (f := fun c => 1 < chN (stS (gM w) (w 38 141 + w 38 143) (w 38 140 + w 38 142) k.toNat) (stS (gM w) (w 38 141 + w 38 143) (w 38 140 + w 38 142) (k.toNat + 1)) c) (n := c) (by omega)
        have cb := chN_b (stS (gM w) (w 38 141 + w 38 143) (w 38 140 + w 38 142) k.toNat) (stS (gM w) (w 38 141 + w 38 143) (w 38 140 + w 38 142) (k.toNat + 1)) c
        have hy := y2 c hc1 hc2
        apply tX8_laysEvents_207 w7 _ _ _ _ _ _ (by omega) (by omega) (by omega) (by unfold evE; omega) (by unfold evP; omega) (by omega) (fun _ => by omega)
        · intro _ s1 s2; omega
        · intro _ s1 s2; rw [hy] at s1 s2; rw [bI_1 s1, bI_0 s2] at ihc; exact ihc
        · intro _ s1 s2; rw [hy] at s1 s2; rw [bI_0 s1, bI_1 s2] at ihc; exact ihc
        · intro _ s1 s2; rw [hy] at s1 s2; rw [bI_0 s1, bI_0 s2] at ihc; exact ihc
        · intro z; omega
        · intro z; omega
    · intro w5 f5 hI
      refine ⟨w5, f5, fun c c1 c2 => ?_, fun r w9 hgo => ?_⟩
      · rw [hI c c1 c2]
        unfold chN
        rw [← enS2]
        exact (NQ_np hsupS2 (npF_sup hsupS2).1).symm
      · apply tX8_laysEvents_132 w5 _ _ _ _ (PX := 0) (PY := 0) (by omega) (by omega) (by decide) (by decide) (fun z => absurd z (by omega)) (fun z => absurd z (by omega)) (fun z => absurd z (by omega))
        · intro z; omega
        · intro _; exact hgo
    · intro e he1 he2 ihe w5 f5 hI
      obtain ⟨PX, PY, x1, x2, x3, x4, x5, x6⟩ := place w5 f5 e he1 he2
      have e51 : w5 51 = w3 51 := f5 51 (by decide)
      obtain ⟨w7, y1, y2, y3⟩ := ihe (eU w5 60 (w3 51 (30 * PY + PX)) (w5 60 (w3 51 (30 * PY + PX)) + 1)) (f5.put (by decide)) (fun c c1 c2 => by
        rw [sumI_succ _ he1, eU_get]
        have hx := x4 c c1 c2
        by_cases hc : c = w3 51 (30 * PY + PX)
        · rw [if_pos hc, bI_1 (hx.mp hc.symm), ← hc, hI c c1 c2]
        · rw [if_neg hc, bI_0 (fun z => hc (hx.mpr z).symm), hI c c1 c2, Int.add_zero])
      refine ⟨w7, y1, y2, fun r w9 hgo => ?_⟩
      apply tX8_laysEvents_132 w5 _ _ _ _ (by omega) (by omega) x1 x2 (fun _ => by rw [e51]; omega) (fun _ => x5) (fun _ => x6)
      · intro _; rw [e51]; exact y3 r w9 hgo
      · intro z; omega
  · intro w5 f5 hI
    refine ⟨w5, f5, hI, fun r w9 hgo => ?_⟩
    apply tX8_laysEvents_109 w5 _ _ _ _ (by omega) (by omega)
    · intro z; omega
    · intro _; exact hgo
  · intro c hc1 hc2 ihc w5 f5 hI
    obtain ⟨w6, z1, z2, z3⟩ := ihc (eU w5 60 c 0) (f5.put (by decide)) (fun j j1 j2 => by
      rw [eU_get]
      by_cases hj : j = c
      · rw [if_pos hj]
      · rw [if_neg hj]; exact hI j j1 (by omega))
    refine ⟨w6, z1, z2, fun r w9 hgo => ?_⟩
    apply tX8_laysEvents_109 w5 _ _ _ _ (by omega) (by omega)
    · intro _; exact z3 r w9 hgo
    · intro z; omega
