/-- the height, slopes, drop of a point of a grid -/
noncomputable def slG (g : Int → Int → Int) (W H : Int) (q : Int → Int) (px py : Int) : Int := slQ g W H q px py (htQ g W H q px py)
noncomputable def drG (g : Int → Int → Int) (W H : Int) (q : Int → Int) (S : eW) (px py : Int) : Int := drQ g W H q S px py (htQ g W H q px py)
/-- how many points of the frame have a property -/
noncomputable def ptN (W H : Int) (P : Int → Int → Prop) : Int := sumI (fun py => sumI (fun px => bI (P px py)) 0 (4 * W + 1)) 0 (4 * H + 1)
/-- the same, of those ahead of a point -/
noncomputable def ptP (W : Int) (P : Int → Int → Prop) (py px : Int) : Int := sumI (fun j => sumI (fun i => bI (P i j)) 0 (4 * W + 1)) 0 py + sumI (fun i => bI (P i py)) 0 px
theorem ptP_0 (W : Int) (P : Int → Int → Prop) : ptP W P 0 0 = 0 := by unfold ptP; rw [sumI_self, sumI_self]; rfl
theorem ptP_px {W : Int} {P : Int → Int → Prop} {py px : Int} (h : 0 ≤ px) : ptP W P py (px + 1) = ptP W P py px + bI (P px py) := by
  unfold ptP
  rw [sumI_succ (fun i => bI (P i py)) h]
  omega
theorem ptP_py {W : Int} {P : Int → Int → Prop} {py : Int} (h : 0 ≤ py) : ptP W P (py + 1) 0 = ptP W P py (4 * W + 1) := by
  unfold ptP
  rw [sumI_succ (fun j => sumI (fun i => bI (P i j)) 0 (4 * W + 1)) h, sumI_self]
  omega
theorem ptP_all (W H : Int) (P : Int → Int → Prop) : ptP W P (4 * H + 1) 0 = ptN W H P := by
  unfold ptP ptN
  rw [sumI_self]
  omega
theorem ptP_b {W : Int} {P : Int → Int → Prop} {py px : Int} (hW : 0 ≤ W ∧ W ≤ 14) (h1 : 0 ≤ py ∧ py ≤ 41) (h2 : 0 ≤ px ∧ px ≤ 57) : 0 ≤ ptP W P py px ∧ ptP W P py px ≤ 3000 := by
  unfold ptP
  have e1 := sumI_bound (f := fun i => bI (P i py)) (a := 0) (b := px) (lo := 0) (hi := 1) h2.1 (fun i _ _ => by have := bI_b (P i py); show 0 ≤ bI (P i py) ∧ bI (P i py) ≤ 1; omega)
  have e2 := sumI_bound (f := fun j => sumI (fun i => bI (P i j)) 0 (4 * W + 1)) (a := 0) (b := py) (lo := 0) (hi := 57) h1.1 (fun j _ _ => by
    have e3 := sumI_bound (f := fun i => bI (P i j)) (a := 0) (b := 4 * W + 1) (lo := 0) (hi := 1) (by omega) (fun i _ _ => by have := bI_b (P i j); show 0 ≤ bI (P i j) ∧ bI (P i j) ≤ 1; omega)
    show 0 ≤ sumI (fun i => bI (P i j)) 0 (4 * W + 1) ∧ sumI (fun i => bI (P i j)) 0 (4 * W + 1) ≤ 57
    omega)
  omega
theorem wallsOf_fr {S : List Nat} {w w1 : eW} (h : Fr S w w1) (hS : 2 ∉ S ∧ 3 ∉ S) : wallsOf w1 = wallsOf w := by
  unfold wallsOf
  rw [gC_fr h hS, h 2 hS.1]
theorem RC_fr {S : List Nat} {w w1 T : eW} (h : Fr S w w1) (hS : 13 ∉ S ∧ 14 ∉ S ∧ 15 ∉ S) (hR : RC w T) : RC w1 T := by
  unfold RC at *
  rw [h 13 hS.1, h 14 hS.2.1, h 15 hS.2.2]
  exact hR
theorem RMs_fr {S : List Nat} {w w1 : eW} (h : Fr S w w1) (hS : 2 ∉ S ∧ 3 ∉ S ∧ 4 ∉ S ∧ 17 ∉ S ∧ 18 ∉ S ∧ 19 ∉ S ∧ 21 ∉ S) (h9 : w1 16 9 = w 16 9) (h10 : w1 16 10 = w 16 10) (hm : RMs w) : RMs w1 := by
  obtain ⟨m1, m2, m3, m4⟩ := hm
  refine ⟨by rw [h10]; exact m1, RY_fr h ⟨hS.1, hS.2.1, hS.2.2.1, hS.2.2.2.1, hS.2.2.2.2.1⟩ h9 m2, ?_, ?_⟩
  · rw [h 2 hS.1]
    exact fun px h1 h2 => RR_fr h ⟨hS.1, hS.2.1, hS.2.2.1, hS.2.2.2.2.2.1⟩ (m3 px h1 h2)
  · rw [h 2 hS.1, h 21 hS.2.2.2.2.2.2, htC_fr h ⟨hS.1, hS.2.1, hS.2.2.1⟩]
    exact m4
/-- slopes and drops are counted -/
def RCt (w : eW) : Prop := w 16 11 = 1 ∧ (∀ s, 0 ≤ s → s < 16 → w 22 s = ptN (w 2 0) (w 2 1) (fun px py => slG (gC w) (w 2 0) (w 2 1) (qC w) px py = s)) ∧ ∀ k, 0 ≤ k → k < 280 → w 23 k = ptN (w 2 0) (w 2 1) (fun px py => drG (gC w) (w 2 0) (w 2 1) (qC w) (wallsOf w) px py = k)
theorem RCt_fr {S : List Nat} {w w1 : eW} (h : Fr S w w1) (hS : 2 ∉ S ∧ 3 ∉ S ∧ 4 ∉ S ∧ 22 ∉ S ∧ 23 ∉ S) (h11 : w1 16 11 = w 16 11) (hm : RCt w) : RCt w1 := by
  unfold RCt at *
  rw [h11, h 22 hS.2.2.2.1, h 23 hS.2.2.2.2, h 2 hS.1, gC_fr h ⟨hS.1, hS.2.1⟩, qC_fr h hS.2.2.1, wallsOf_fr h ⟨hS.1, hS.2.1⟩]
  exact hm
theorem y_X5_countFalls (w : eW) (hH : HH w) (hz : w 16 9 = 0 ∨ RY w) (hm : w 16 10 = 0 ∨ RMs w) (hw : w 13 4 = 0 ∨ RC w (wallsOf w)) (hc : w 16 11 = 0 ∨ (RCt w ∧ RC w (wallsOf w) ∧ RMs w)) : ∃ w1, Cal mX5_countFalls [eR 16] w none w1 ∧ Fr [13, 14, 15, 16, 17, 18, 19, 20, 21, 22, 23] w w1 ∧ RMs w1 ∧ RC w1 (wallsOf w1) ∧ RCt w1 := by
  have hz2 : eI (w 16 11) := by
    rcases hc with h | h
    · omega
    · have := h.1.1; omega
  obtain ⟨⟨b1, b2, b3, b4, b5, b6⟩, b7, b8, b9⟩ := id hH.1
  have F0 : Fr [16] w (eU w 16 11 1) := Fr.put Fr.rf (by decide)
  have hz0 : (eU w 16 11 1) 16 9 = 0 ∨ RY (eU w 16 11 1) := by
    rcases hz with h | h
    · left; rw [eU_get, if_neg (by decide)]; exact h
    · right; exact RY_fr F0 (by decide) (by rw [eU_get, if_neg (by decide)]) h
  have hm0 : (eU w 16 11 1) 16 10 = 0 ∨ RMs (eU w 16 11 1) := by
    rcases hm with h | h
    · left; rw [eU_get, if_neg (by decide)]; exact h
    · right; exact RMs_fr F0 (by decide) (by rw [eU_get, if_neg (by decide)]) (by rw [eU_get, if_neg (by decide)]) h
  obtain ⟨w1, c1, f1, o1, m1⟩ := y_X5_measureAll (eU w 16 11 1) (HH_fr F0 hH (by decide)) hz0 hm0
  have F1 : Fr [16, 17, 18, 19, 21] w w1 := (F0.mono (by decide)).tr f1
  have e13 : w1 13 = w 13 := F1 13 (by decide)
  have eW1 : wallsOf w1 = wallsOf w := wallsOf_fr F1 (by decide)
  obtain ⟨w2, c2, f2, r2⟩ := y_X6_build w1 (HB_fr F1 hH.1 (by decide)) (by rw [e13]; rcases hw with h | h; exact Or.inl h; exact Or.inr h.1) (fun z => by
    rw [eW1]
    refine RC_fr F1 (by decide) ?_
    rcases hw with h | h
    · rw [e13] at z; omega
    · exact h)
  rw [eW1] at r2
  rcases hc.symm with hc | hc
  · refine ⟨w, Cal.of (by decide +kernel) (Nat.le_of_ble_eq_true rfl) ?_, Fr.rf, hc.2.2, hc.2.1, hc.1⟩
    have := hc.1.1
    apply tX5_countFalls_0 w hz2 c1 c2
    · intro h; omega
    · intro _; exact ⟨rfl, rfl⟩
  have F2 : Fr [13, 14, 15, 16, 17, 18, 19, 20, 21, 22, 23] w w2 := (F1.mono (by decide)).tr (f2.mono (by decide))
  have m2 : RMs w2 := RMs_fr f2 (by decide) (f2.at 16 (by decide) 9) (f2.at 16 (by decide) 10) m1
  have o11 : w2 16 11 = 1 := by rw [f2.at 16 (by decide), o1 11 (by decide) (by decide), eU_get, if_pos rfl]
  -- a world of the loop: all but 20, 22, 23 is as in w2
  have wd : ∀ w0, Fr [20, 22, 23] w2 w0 → HH w0 ∧ RMs w0 ∧ RC w0 (wallsOf w0) ∧ w0 2 = w 2 ∧ gC w0 = gC w ∧ qC w0 = qC w ∧ wallsOf w0 = wallsOf w ∧ htC w0 = htC w := by
    intro w0 hF
    have hFw : Fr [13, 14, 15, 16, 17, 18, 19, 20, 21, 22, 23] w w0 := F2.tr (hF.mono (by decide))
    refine ⟨HH_fr hFw hH (by decide), RMs_fr hF (by decide) (hF.at 16 (by decide) 9) (hF.at 16 (by decide) 10) m2, ?_, hFw 2 (by decide), gC_fr hFw (by decide), qC_fr hFw (by decide), wallsOf_fr hFw (by decide), htC_fr hFw (by decide)⟩
    rw [wallsOf_fr hFw (by decide)]
    exact RC_fr hF (by decide) r2
  -- one point
  have fall : ∀ w0 px py, Fr [20, 22, 23] w2 w0 → RQ w0 py → 0 ≤ px → px ≤ 4 * w 2 0 → 0 ≤ py → py ≤ 4 * w 2 1 → ∃ w3, Cal mX5_countFall [eR 16, (0, px), (0, py)] w0 none w3 ∧ Fr [22, 23] w0 w3 ∧ (∀ s, 0 ≤ s → s < 16 → w3 22 s = w0 22 s + bI (slG (gC w) (w 2 0) (w 2 1) (qC w) px py = s)) ∧ ∀ k, 0 ≤ k → k < 280 → w3 23 k = w0 23 k + bI (drG (gC w) (w 2 0) (w 2 1) (qC w) (wallsOf w) px py = k) := by
    intro w0 px py hF hQ hx1 hx2 hy1 hy2
    obtain ⟨hH0, hM0, hR0, e2, eg, eq, ew, eh⟩ := wd w0 hF
    have hp : 0 ≤ px ∧ px ≤ 4 * w0 2 0 ∧ 0 ≤ py ∧ py ≤ 4 * w0 2 1 := by rw [e2]; omega
    obtain ⟨i1, i2⟩ := htC_is hH0 hp
    have e21 := hM0.2.2.2 px py hp.1 hp.2.1 hp.2.2.1 hp.2.2.2
    have s1 := y_X5_slopesAt w0 px py (htC w0 px py) hH0 hM0.2.1 (hM0.2.2.1 px hp.1 hp.2.1) hQ hp i1 i2
    have hsb := slQ_b (gC w0) (w0 2 0) (w0 2 1) (qC w0) px py (htC w0 px py)
    have es : slQ (gC w0) (w0 2 0) (w0 2 1) (qC w0) px py (htC w0 px py) = slG (gC w) (w 2 0) (w 2 1) (qC w) px py := by
      rw [eg, eq, e2, eh]; rfl
    rw [es] at s1 hsb
    have FU : Fr [22] w0 (eU w0 22 (slG (gC w) (w 2 0) (w 2 1) (qC w) px py) (w0 22 (slG (gC w) (w 2 0) (w 2 1) (qC w) px py) + 1)) := Fr.put Fr.rf (by decide)
    obtain ⟨d0, d1⟩ := y_X5_wallBelow _ px py (htC w0 px py) (HH_fr FU hH0 (by decide)) (RY_fr FU (by decide) (FU.at 16 (by decide) 9) hM0.2.1) (by rw [wallsOf_fr FU (by decide)]; exact RC_fr FU (by decide) hR0) (by rw [FU 2 (by decide)]; exact hp) (by rw [gC_fr FU (by decide), qC_fr FU (by decide), FU 2 (by decide)]; exact i1) i2
    rw [gC_fr FU (by decide), qC_fr FU (by decide), FU 2 (by decide), wallsOf_fr FU (by decide), eg, eq, e2, eh, ew] at d0 d1
    have ed : drQ (gC w) (w 2 0) (w 2 1) (qC w) (wallsOf w) px py (htC w px py) = drG (gC w) (w 2 0) (w 2 1) (qC w) (wallsOf w) px py := rfl
    have es2 : slQ (gC w) (w 2 0) (w 2 1) (qC w) px py (htC w px py) = slG (gC w) (w 2 0) (w 2 1) (qC w) px py := rfl
    rw [ed] at d0 d1
    rw [es2, ← eh, ← e21] at d1
    rw [← e21] at s1
    revert s1 hsb d0 d1 FU
    generalize slG (gC w) (w 2 0) (w 2 1) (qC w) px py = sl
    generalize drG (gC w) (w 2 0) (w 2 1) (qC w) (wallsOf w) px py = dr
    intro s1 hsb FU d0 d1
    have hs : ∀ s, 0 ≤ s → s < 16 → (eU w0 22 sl (w0 22 sl + 1)) 22 s = w0 22 s + bI (sl = s) := fun s h1 h2 => by
      rw [eU_get]
      by_cases hc : s = sl
      · rw [if_pos hc, bI_1 hc.symm, hc]
      · rw [if_neg hc, bI_0 (fun z => hc z.symm)]; omega
    by_cases hd : dr < 0
    · refine ⟨eU w0 22 sl (w0 22 sl + 1), Cal.of (by decide +kernel) (Nat.le_of_ble_eq_true rfl) ?_, FU.mono (by decide), hs, fun k h1 h2 => ?_⟩
      · apply tX5_countFall_0 w0 px py (by omega) s1 hsb d1 d0
        · intro _; exact ⟨rfl, rfl⟩
        · intro z; exact absurd hd z
      · rw [eU_ne (by decide), bI_0 (by omega)]; omega
    · refine ⟨eU (eU w0 22 sl (w0 22 sl + 1)) 23 dr (w0 23 dr + 1), Cal.of (by decide +kernel) (Nat.le_of_ble_eq_true rfl) ?_, (FU.mono (by decide)).put (by decide), fun s h1 h2 => ?_, fun k h1 h2 => ?_⟩
      · apply tX5_countFall_0 w0 px py (by omega) s1 hsb d1 d0
        · intro z; exact absurd z hd
        · intro _; exact ⟨rfl, rfl⟩
      · rw [eU_ne (by decide)]; exact hs s h1 h2
      · rw [eU_get]
        by_cases hc : k = dr
        · rw [if_pos hc, bI_1 hc.symm, hc]
        · rw [if_neg hc, bI_0 (fun z => hc z.symm), eU_ne (by decide)]; omega
  -- all points
  have key := loop_up (P := fun py => ∀ w0, Fr [20, 22, 23] w2 w0 → (∀ s, 0 ≤ s → s < 16 → w0 22 s = ptP (w 2 0) (fun px py => slG (gC w) (w 2 0) (w 2 1) (qC w) px py = s) py 0) → (∀ k, 0 ≤ k → k < 280 → w0 23 k = ptP (w 2 0) (fun px py => drG (gC w) (w 2 0) (w 2 1) (qC w) (wallsOf w) px py = k) py 0) → ∃ w3, Go mX5_countFalls 42 [(0, eR 16), (1, (0, py))] [] w0 none w3 ∧ Fr [20, 22, 23] w2 w3 ∧ (∀ s, 0 ≤ s → s < 16 → w3 22 s = ptN (w 2 0) (w 2 1) (fun px py => slG (gC w) (w 2 0) (w 2 1) (qC w) px py = s)) ∧ ∀ k, 0 ≤ k → k < 280 → w3 23 k = ptN (w 2 0) (w 2 1) (fun px py => drG (gC w) (w 2 0) (w 2 1) (qC w) (wallsOf w) px py = k)) 0 (4 * w 2 1 + 1) ?_ ?_ 0 (by omega) (by omega) (eFill (eFill w2 22 16 0) 23 280 0) (fun k hk => by
      simp only [List.mem_cons, List.not_mem_nil, or_false, not_or] at hk
      rw [eFill_ne hk.2.2, eFill_ne hk.2.1]) (fun s h1 h2 => by rw [eFill_ne (by decide), eFill_at, if_pos ⟨h1, h2⟩, ptP_0]) (fun k h1 h2 => by rw [eFill_at, if_pos ⟨h1, h2⟩, ptP_0])
  · obtain ⟨w3, k1, k2, k3, k4⟩ := key
    obtain ⟨hH3, hM3, hR3, e2, eg, eq, ew, eh⟩ := wd w3 k2
    refine ⟨w3, Cal.of (by decide +kernel) (Nat.le_of_ble_eq_true rfl) ?_, F2.tr (k2.mono (by decide)), hM3, hR3, ?_, ?_, ?_⟩
    · apply tX5_countFalls_0 w hz2 c1 c2
      · intro _; exact k1
      · intro z; exact absurd hc z
    · rw [k2.at 16 (by decide)]; exact o11
    · rw [e2, eg, eq]; exact k3
    · rw [e2, eg, eq, ew]; exact k4
  · intro w0 hF h22 h23
    obtain ⟨hH0, hM0, hR0, e2, eg, eq, ew, eh⟩ := wd w0 hF
    refine ⟨w0, ?_, hF, fun s h1 h2 => by rw [h22 s h1 h2, ptP_all], fun k h1 h2 => by rw [h23 k h1 h2, ptP_all]⟩
    apply tX5_countFalls_42 w0 _ (w1 := w0) hH0.1 (by omega) (fun z => absurd (show 4 * w0 2 1 < 4 * w 2 1 + 1 by rw [e2]; omega) z)
    · intro _; exact ⟨rfl, rfl⟩
    · intro z; rw [e2] at z; omega
  · intro py hy1 hy2 ih w0 hF h22 h23
    obtain ⟨hH0, hM0, hR0, e2, eg, eq, ew, eh⟩ := wd w0 hF
    obtain ⟨w3, c3, f3, q3⟩ := y_X5_readyColumns w0 py (by omega) hH0 hM0.2.1
    have row := loop_up (P := fun px => ∀ w4, Fr [20, 22, 23] w2 w4 → RQ w4 py → (∀ s, 0 ≤ s → s < 16 → w4 22 s = ptP (w 2 0) (fun px py => slG (gC w) (w 2 0) (w 2 1) (qC w) px py = s) py px) → (∀ k, 0 ≤ k → k < 280 → w4 23 k = ptP (w 2 0) (fun px py => drG (gC w) (w 2 0) (w 2 1) (qC w) (wallsOf w) px py = k) py px) → ∃ w5, Fr [20, 22, 23] w2 w5 ∧ (∀ s, 0 ≤ s → s < 16 → w5 22 s = ptP (w 2 0) (fun px py => slG (gC w) (w 2 0) (w 2 1) (qC w) px py = s) (py + 1) 0) ∧ (∀ k, 0 ≤ k → k < 280 → w5 23 k = ptP (w 2 0) (fun px py => drG (gC w) (w 2 0) (w 2 1) (qC w) (wallsOf w) px py = k) (py + 1) 0) ∧ ∀ (r : Option eV) (w9 : eW), Go mX5_countFalls 42 [(0, eR 16), (1, (0, py + 1))] [] w5 r w9 → Go mX5_countFalls 62 [(0, eR 16), (1, (0, py)), (2, (0, px))] [] w4 r w9) 0 (4 * w 2 0 + 1) ?_ ?_ 0 (by omega) (by omega) w3 (hF.tr (f3.mono (by decide))) q3 (fun s h1 h2 => by rw [f3.at 22 (by decide)]; exact h22 s h1 h2) (fun k h1 h2 => by rw [f3.at 23 (by decide)]; exact h23 k h1 h2)
    · obtain ⟨w5, k1, k2, k3, k4⟩ := row
      obtain ⟨w6, l1, l2⟩ := ih w5 k1 k2 k3
      refine ⟨w6, ?_, l2⟩
      apply tX5_countFalls_42 w0 _ hH0.1 (by omega) (fun _ => c3)
      · intro z; rw [e2] at z; omega
      · intro _; exact k4 _ _ l1
    · intro w4 hF4 hQ4 h224 h234
      obtain ⟨hH4, hM4, hR4, e24, eg4, eq4, ew4, eh4⟩ := wd w4 hF4
      refine ⟨w4, hF4, fun s h1 h2 => by rw [h224 s h1 h2, ptP_py hy1], fun k h1 h2 => by rw [h234 k h1 h2, ptP_py hy1], fun r w9 h => ?_⟩
      apply tX5_countFalls_62 w4 _ _ (w1 := w4) hH4.1 (by omega) (fun z => absurd (show 4 * w4 2 0 < 4 * w 2 0 + 1 by rw [e24]; omega) z)
      · intro _; exact h
      · intro z; rw [e24] at z; omega
    · intro px hx1 hx2 ihx w4 hF4 hQ4 h224 h234
      obtain ⟨hH4, hM4, hR4, e24, eg4, eq4, ew4, eh4⟩ := wd w4 hF4
      obtain ⟨w5, c5, f5, s5, d5⟩ := fall w4 px py hF4 hQ4 hx1 (by omega) hy1 (by omega)
      obtain ⟨w6, l1, l2, l3, l4⟩ := ihx w5 (hF4.tr (f5.mono (by decide))) (RQ_fr f5 (by decide) hQ4) (fun s h1 h2 => by rw [s5 s h1 h2, h224 s h1 h2, ptP_px hx1]) (fun k h1 h2 => by rw [d5 k h1 h2, h234 k h1 h2, ptP_px hx1])
      refine ⟨w6, l1, l2, l3, fun r w9 h => ?_⟩
      apply tX5_countFalls_62 w4 _ _ hH4.1 (by omega) (fun _ => c5)
      · intro z; rw [e24] at z; omega
      · intro _; exact l4 r w9 h
