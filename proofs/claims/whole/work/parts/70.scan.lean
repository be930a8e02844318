theorem itr_ct {W H : Int} {F : eP} (hs : sup W H F) : ∀ n : Nat, (∀ i : Nat, i < n → ∃ x y, itr F i x y) → (n : Int) + ctF W H (itr F n) ≤ ctF W H F := by
  intro n
  induction n with
  | zero => intro _; show ((0 : Nat) : Int) + ctF W H F ≤ ctF W H F; omega
  | succ n ih =>
    intro h
    have e := ih (fun i hi => h i (by omega))
    obtain ⟨x, y, q⟩ := h n (by omega)
    obtain ⟨u, v, hm⟩ := isMn_ex (sup_itr hs n) q
    have := ctF_lt (W := W) (H := H) (F := itr F n) (G := itr F (n + 1)) (fun _ _ z => z.1) (sup_itr hs n u v hm.1) hm.1 (fun z => z.2 ⟨u, v, hm, cn_rf⟩)
    omega
/-- the pieces ahead of the place j, i have their numbers -/
def SCI (w : eW) (L : eP) (w0 : eW) (n : Nat) (j i : Int) : Prop :=
  Fr [33, 51, 52] w w0 ∧ (∀ k, k ≠ 44 → w0 33 k = w 33 k) ∧ w0 33 44 = n ∧ (∀ c : Nat, c < n → ∃ x y, itr L c x y) ∧ (∀ a b, itr L n a b → ¬ rl a b i j) ∧
  ∀ a b, 0 ≤ a → a < w 33 42 - 1 → 0 ≤ b → b < w 33 43 - 1 → (w0 51 (30 * b + a) = -2 ↔ itr L n a b) ∧ (w0 51 (30 * b + a) = -1 ↔ ¬ L a b) ∧ (w0 51 (30 * b + a) = -2 ∨ w0 51 (30 * b + a) = -1 ∨ (0 ≤ w0 51 (30 * b + a) ∧ w0 51 (30 * b + a) < n)) ∧ ∀ c : Nat, c < n → (w0 51 (30 * b + a) = c ↔ pc (itr L c) a b)
theorem y_laysScan (w : eW) (L : eP) (hc : (1 ≤ w 33 42 ∧ w 33 42 ≤ 30) ∧ 1 ≤ w 33 43 ∧ w 33 43 ≤ 30) (hL : sup (w 33 42 - 1) (w 33 43 - 1) L) (hlab : ∀ a b, 0 ≤ a → a < w 33 42 - 1 → 0 ≤ b → b < w 33 43 - 1 → (L a b → w 51 (30 * b + a) = -2) ∧ (¬ L a b → w 51 (30 * b + a) = -1)) : ∃ w1 n, SCI w L w1 n (w 33 43 - 1) 0 ∧ isNp L n ∧ Go mX8_lays 434 [(0, eR 33), (7, (0, 0))] [] (eU w 33 44 0) none w1 := by
  have key := loop_up (P := fun j => ∀ w0 n, SCI w L w0 n j 0 → ∃ w1 n1, SCI w L w1 n1 (w 33 43 - 1) 0 ∧ isNp L n1 ∧ Go mX8_lays 434 [(0, eR 33), (7, (0, j))] [] w0 none w1) 0 (w 33 43 - 1) ?_ ?_ 0 (by omega) (by omega) (eU w 33 44 0) 0 ⟨Fr.rf.put (by decide), fun k hk => by rw [eU_get, if_neg hk], by rw [eU_get, if_pos rfl]; rfl, fun c hc => absurd hc (by omega), fun a b q hr => by have := hL a b q; unfold rl at hr; omega, fun a b a1 a2 a3 a4 => by
    rw [eU_ne (by decide)]
    have := hlab a b a1 a2 a3 a4
    by_cases hl : L a b
    · have e := this.1 hl
      rw [e]
      exact ⟨⟨fun _ => hl, fun _ => rfl⟩, ⟨fun z => absurd z (by decide), fun z => absurd hl z⟩, Or.inl rfl, fun c hc => absurd hc (by omega)⟩
    · have e := this.2 hl
      rw [e]
      exact ⟨⟨fun z => absurd z (by decide), fun z => absurd z hl⟩, ⟨fun _ => hl, fun _ => rfl⟩, Or.inr (Or.inl rfl), fun c hc => absurd hc (by omega)⟩⟩
  · obtain ⟨w1, n, k1, k2, k3⟩ := key
    exact ⟨w1, n, k1, k2, k3⟩
  · intro w0 n hI
    obtain ⟨f1, f2, f3, f4, f5, f6⟩ := id hI
    refine ⟨w0, n, hI, ⟨f4, fun x y q => ?_⟩, ?_⟩
    · have := hL x y (itr_sub n x y q)
      exact f5 x y q (by unfold rl; omega)
    · apply tX8_lays_434 w0 _ (by rw [f2 43 (by decide)]; omega) (by omega)
      · intro z; rw [f2 43 (by decide)] at z; omega
      · intro _; exact ⟨rfl, rfl⟩
  · intro j hj1 hj2 ih w0 n hI
    obtain ⟨f1, f2, f3, f4, f5, f6⟩ := id hI
    have row := loop_up (P := fun i => ∀ w0 n, SCI w L w0 n j i → ∃ w1 n1, SCI w L w1 n1 (j + 1) 0 ∧ ∀ (r : Option eV) (w9 : eW), Go mX8_lays 434 [(0, eR 33), (7, (0, j + 1))] [] w1 r w9 → Go mX8_lays 448 [(0, eR 33), (7, (0, j)), (8, (0, i))] [] w0 r w9) 0 (w 33 42 - 1) ?_ ?_ 0 (by omega) (by omega) w0 n hI
    · obtain ⟨w1, n1, k1, k2⟩ := row
      obtain ⟨w2, n2, l1, l2, l3⟩ := ih w1 n1 k1
      refine ⟨w2, n2, l1, l2, ?_⟩
      apply tX8_lays_434 w0 _ (by rw [f2 43 (by decide)]; omega) (by omega)
      · intro _; exact k2 _ _ l3
      · intro z; rw [f2 43 (by decide)] at z; omega
    · intro w0 n hI
      obtain ⟨f1, f2, f3, f4, f5, f6⟩ := id hI
      refine ⟨w0, n, ⟨f1, f2, f3, f4, fun a b q hr => f5 a b q ?_, f6⟩, fun r w9 hgo => ?_⟩
      · have := hL a b (itr_sub n a b q)
        unfold rl at *
        omega
      · apply tX8_lays_448 w0 _ _ (w1 := w0) (by rw [f2 42 (by decide)]; omega) (by omega) (by omega) (fun z => absurd z (by rw [f2 42 (by decide)]; omega)) (fun z => absurd z (by rw [f2 42 (by decide)]; omega))
        · intro z z2; rw [f2 42 (by decide)] at z; omega
        · intro z; rw [f2 42 (by decide)] at z; omega
        · intro _; exact hgo
    · intro i hi1 hi2 ihi w0 n hI
      obtain ⟨f1, f2, f3, f4, f5, f6⟩ := id hI
      have e42 : w0 33 42 = w 33 42 := f2 42 (by decide)
      have e43 : w0 33 43 = w 33 43 := f2 43 (by decide)
      have hij := f6 i j hi1 (by omega) hj1 (by omega)
      have hnb : (n : Int) ≤ 841 := by
        have l1 := itr_ct hL n f4
        have l2 := (ctF_b (W := w 33 42 - 1) (H := w 33 43 - 1) (by omega) (by omega) (itr L n)).1
        have l3 := (ctF_b (W := w 33 42 - 1) (H := w 33 43 - 1) (by omega) (by omega) L).2
        have l4 : (w 33 43 - 1) * (w 33 42 - 1) ≤ 29 * 29 := Int.mul_le_mul (by omega) (by omega) (by omega) (by omega)
        omega
      by_cases hl : w0 51 (30 * j + i) = -2
      · -- a new piece
        have hin := hij.1.mp hl
        have eU0 : unl w0 = itr L n := by
          funext a b
          apply propext
          unfold unl
          rw [e42, e43]
          constructor
          · rintro ⟨u1, u2, u3, u4, u5⟩
            exact (f6 a b u1 u2 u3 u4).1.mp u5
          · intro z
            have := hL a b (itr_sub n a b z)
            exact ⟨this.1, this.2.1, this.2.2.1, this.2.2.2, (f6 a b this.1 this.2.1 this.2.2.1 this.2.2.2).1.mpr z⟩
        have hFH : FH w0 := by
          refine ⟨by omega, by omega, by omega, fun a b u1 u2 u3 u4 => ?_⟩
          rw [e42] at u2
          rw [e43] at u4
          have := (f6 a b u1 u2 u3 u4).2.2.1
          omega
        obtain ⟨w1, k1, k2, k3⟩ := y_X8_fills w0 hFH (x0 := i) (y0 := j) (by rw [eU0]; exact hin)
        rw [eU0, e42, e43, f3] at k3
        have hmn : isMn (itr L n) i j := ⟨hin, fun a b q hr => f5 a b q hr⟩
        have epc : ∀ a b, pc (itr L n) a b ↔ cn (itr L n) i j a b := fun a b => by
          constructor
          · rintro ⟨x, y, m, q⟩
            obtain ⟨rfl, rfl⟩ := isMn_one hmn m
            exact q
          · intro q; exact ⟨i, j, hmn, q⟩
        have e144 : w1 33 44 = n := by rw [k2.at 33 (by decide)]; exact f3
        obtain ⟨w2, n2, l1, l2⟩ := ihi (eU w1 33 44 (w1 33 44 + 1)) (n + 1) ⟨(f1.tr (k2.mono (by decide))).put (by decide), fun k hk => by rw [eU_get, if_neg hk, k2.at 33 (by decide)]; exact f2 k hk, by rw [eU_get, if_pos rfl, e144]; omega, fun c hc => by
            by_cases hcn : c = n
            · rw [hcn]; exact ⟨i, j, hin⟩
            · exact f4 c (by omega), fun a b q hr => by
            by_cases hc : a = i ∧ b = j
            · rw [hc.1, hc.2] at q
              exact q.2 ⟨i, j, hmn, cn_rf⟩
            · refine f5 a b q.1 ?_
              unfold rl at *
              omega, fun a b u1 u2 u3 u4 => by
            rw [eU_ne (by decide)]
            obtain ⟨g1, g2, g3, g4⟩ := f6 a b u1 u2 u3 u4
            obtain ⟨h1, h2⟩ := k3 a b u1 u2 u3 u4
            by_cases hcn : cn (itr L n) i j a b
            · have e := h1 hcn
              have hi0 : itr L n a b := cn_in hin hcn
              have hL0 := itr_sub n a b hi0
              rw [e]
              refine ⟨⟨fun z => by omega, fun z => absurd ((epc a b).mpr hcn) z.2⟩, ⟨fun z => by omega, fun z => absurd hL0 z⟩, Or.inr (Or.inr ⟨by omega, by omega⟩), fun c hc => ?_⟩
              by_cases hcc : c = n
              · subst hcc
                exact ⟨fun _ => (epc a b).mpr hcn, fun _ => rfl⟩
              · constructor
                · intro z; omega
                · intro z
                  have q := (g4 c (by omega)).mpr z
                  have := g1.mpr hi0
                  omega
            · have e := h2 hcn
              rw [e]
              refine ⟨⟨fun z => ⟨g1.mp z, fun q => hcn ((epc a b).mp q)⟩, fun z => g1.mpr z.1⟩, g2, by omega, fun c hc => ?_⟩
              by_cases hcc : c = n
              · subst hcc
                constructor
                · intro z; omega
                · intro z; exact absurd ((epc a b).mp z) hcn
              · exact g4 c (by omega)⟩
        refine ⟨w2, n2, l1, fun r w9 hgo => ?_⟩
        apply tX8_lays_448 w0 _ _ (by omega) (by omega) (by omega) (fun _ => by omega) (fun _ _ => k1)
        · intro _ _; exact l2 r w9 hgo
        · intro _ z; exact absurd hl z
        · intro z; omega
      · obtain ⟨w2, n2, l1, l2⟩ := ihi w0 n ⟨f1, f2, f3, f4, fun a b q hr => by
          by_cases hc : a = i ∧ b = j
          · rw [hc.1, hc.2] at q
            exact hl (hij.1.mpr q)
          · refine f5 a b q ?_
            unfold rl at *
            omega, f6⟩
        refine ⟨w2, n2, l1, fun r w9 hgo => ?_⟩
        have hv := hij.2.2.1
        apply tX8_lays_448 w0 _ _ (w1 := w0) (by omega) (by omega) (by omega) (fun _ => by omega) (fun _ z => absurd z hl)
        · intro _ z; exact absurd z hl
        · intro _ _; exact l2 r w9 hgo
        · intro z; omega
/-- behind lays -/
def LAY (w w1 : eW) (p q sX iX sY iY : Int) (n : Nat) : Prop :=
  FrL w w1 ∧ ((1 ≤ w1 33 42 ∧ w1 33 42 ≤ 30) ∧ 1 ≤ w1 33 43 ∧ w1 33 43 ≤ 30) ∧
  lnI w1 45 46 47 (w1 33 42) q p (w 38 143) (w 38 141) (w 33 24) (w 33 24 + 1) ∧ lnI w1 48 49 50 (w1 33 43) q p (w 38 140) (w 38 142) (w 33 25) (w 33 25 + 1) ∧
  LSt (w1 45) (w1 33 42) q p (w 38 143) (w 38 141) (w 33 24) (mX w p q) (fX w p q) sX iX ∧ LSt (w1 48) (w1 33 43) q p (w 38 140) (w 38 142) (w 33 25) (mY w p q) (fY w p q) sY iY ∧
  isNp (sT (gM w) (mX w p q) (mY w p q)) n ∧ w1 33 44 = n ∧
  ∀ a b, 0 ≤ a → a < w1 33 42 - 1 → 0 ≤ b → b < w1 33 43 - 1 → (w1 51 (30 * b + a) = -1 ∨ (0 ≤ w1 51 (30 * b + a) ∧ w1 51 (30 * b + a) < n)) ∧ (lf iX iY sX sY (sT (gM w) (mX w p q) (mY w p q)) a b ↔ 0 ≤ w1 51 (30 * b + a)) ∧ ∀ c : Nat, c < n → (w1 51 (30 * b + a) = c ↔ pc (itr (lf iX iY sX sY (sT (gM w) (mX w p q) (mY w p q))) c) a b)
theorem y_X8_lays (w : eW) (p q : Int) (hM : MB w) (hsp : ∀ k, 140 ≤ k → k < 144 → 1 ≤ w 38 k ∧ w 38 k ≤ 9) (hp : 0 ≤ p ∧ p ≤ 10000) (hq : 1 ≤ q ∧ q ≤ 10000) : ∃ w1 sX iX sY iY n, Cal mX8_lays [eR 33, (0, p), (0, q)] w none w1 ∧ LAY w w1 p q sX iX sY iY n := by
  obtain ⟨⟨c1, c2, c3, c4, c5, c6, c7, c8, c9, c10⟩, c11, c12, c13⟩ := id hM
  have s0 := hsp 140 (by decide) (by decide)
  have s1 := hsp 141 (by decide) (by decide)
  have s2 := hsp 142 (by decide) (by decide)
  have s3 := hsp 143 (by decide) (by decide)
  have g0 : FrL w (eU (eU w 33 42 0) 33 43 0) := (FrL.rf.put (Or.inl rfl)).put (Or.inr (Or.inl rfl))
  obtain ⟨wa, a1, a2, a3, a4, a5⟩ := y_laysX (eU (eU w 33 42 0) 33 43 0) p q (MB_L g0 hM) (by rw [eU_ne (by decide), eU_ne (by decide)]; exact hsp) hp hq (by rw [eU_get, if_neg (by decide), eU_get, if_pos rfl])
  have ga : FrL w wa := g0.tr a1
  have ha38 : wa 38 = w 38 := ga.1 38 (by decide)
  obtain ⟨wb, b1, b2, b3, b4, b5⟩ := y_laysY wa p q (MB_L ga hM) (by rw [ha38]; exact hsp) hp hq (by rw [a3 43 (by decide), eU_get, if_pos rfl])
  have gb : FrL w wb := ga.tr b1
  have hb38 : wb 38 = w 38 := gb.1 38 (by decide)
  have hX : lnI wb 45 46 47 (wb 33 42) q p (w 38 143) (w 38 141) (w 33 24) (w 33 24 + 1) := by
    have := lnI_fr b2 (by decide) a4
    rw [eU_ne (show (38 : Nat) ≠ 33 by decide), eU_ne (show (38 : Nat) ≠ 33 by decide), g0.2 24 (by decide) (by decide) (by decide)] at this
    rw [b3 42 (by decide)]
    exact this
  have hY : lnI wb 48 49 50 (wb 33 43) q p (w 38 140) (w 38 142) (w 33 25) (w 33 25 + 1) := by
    rw [ha38, ga.2 25 (by decide) (by decide) (by decide)] at b4
    exact b4
  have dX : 0 ≤ w 38 141 * p + w 38 143 * p := by
    have := Int.mul_nonneg (show 0 ≤ w 38 141 by omega) hp.1
    have := Int.mul_nonneg (show 0 ≤ w 38 143 by omega) hp.1
    omega
  have dY : 0 ≤ w 38 142 * p + w 38 140 * p := by
    have := Int.mul_nonneg (show 0 ≤ w 38 142 by omega) hp.1
    have := Int.mul_nonneg (show 0 ≤ w 38 140 by omega) hp.1
    omega
  obtain ⟨sX, iX, lX⟩ := lnI_st hX hq.1 dX c1
  obtain ⟨sY, iY, lY⟩ := lnI_st hY hq.1 dY c3
  have e24 : wb 33 24 = w 33 24 := gb.2 24 (by decide) (by decide) (by decide)
  have e25 : wb 33 25 = w 33 25 := gb.2 25 (by decide) (by decide) (by decide)
  have emX : mX wb p q = mX w p q := by unfold mX; rw [hb38]
  have emY : mY wb p q = mY w p q := by unfold mY; rw [hb38]
  have efX : fX wb p q = fX w p q := by unfold fX; rw [hb38]
  have efY : fY wb p q = fY w p q := by unfold fY; rw [hb38]
  have hn42 : 1 ≤ wb 33 42 ∧ wb 33 42 ≤ 30 := by
    obtain ⟨⟨i, i1, i2, i3⟩, _⟩ := hX.2.2.2 0 (by omega) (by omega)
    have := hX.1
    omega
  have hn43 : 1 ≤ wb 33 43 ∧ wb 33 43 ≤ 30 := by
    obtain ⟨⟨i, i1, i2, i3⟩, _⟩ := hY.2.2.2 0 (by omega) (by omega)
    have := hY.1
    omega
  obtain ⟨wc, l1, l2, l3⟩ := y_laysLab wb p q (MB_L gb hM) (by rw [hb38]; exact hsp) hp hq (sX := sX) (iX := iX) (sY := sY) (iY := iY) (by rw [hb38, e24]; exact hX) (by rw [hb38, e25]; exact hY) (by rw [hb38, e24, emX, efX]; exact lX) (by rw [hb38, e25, emY, efY]; exact lY)
  rw [gM_L gb, emX, emY] at l2
  have gc : FrL w wc := gb.tr (FrL.of l1 (by decide) (by decide))
  have hc33 : wc 33 = wb 33 := l1 33 (by decide)
  have m0 : 0 ≤ mX w p q := Int.ediv_nonneg dX (by omega)
  have n0 : 0 ≤ mY w p q := Int.ediv_nonneg dY (by omega)
  have hsup : sup (wc 33 42 - 1) (wc 33 43 - 1) (lf iX iY sX sY (sT (gM w) (mX w p q) (mY w p q))) := fun a b z => by
    have := lf_in gM_in lX.2.1 lY.2.1 m0 n0 z
    have k1 := (lX.2.2.2.2.2 a this.1.1 this.1.2).1
    have k2 := (lY.2.2.2.2.2 b this.2.1 this.2.2).1
    rw [hc33]
    omega
  obtain ⟨wd, n, d1, d2, d3⟩ := y_laysScan wc (lf iX iY sX sY (sT (gM w) (mX w p q) (mY w p q))) (by rw [hc33]; exact ⟨hn42, hn43⟩) hsup (by rw [hc33]; exact l2)
  obtain ⟨f1, f2, f3, f4, f5, f6⟩ := id d1
  have gd : FrL w wd := gc.tr ⟨f1.mono (by decide), fun i _ _ z => f2 i z⟩
  have hd42 : wd 33 42 = wb 33 42 := by rw [f2 42 (by decide), hc33]
  have hd43 : wd 33 43 = wb 33 43 := by rw [f2 43 (by decide), hc33]
  have fd : Fr [33, 51, 52] wb wd := (l1.mono (by decide)).tr f1
  refine ⟨wd, sX, iX, sY, iY, n, Cal.of (by decide +kernel) (Nat.le_of_ble_eq_true rfl) (tX8_lays_0 w p q (a5 _ _ (b5 _ _ ?_))), gd, by rw [hd42, hd43]; exact ⟨hn42, hn43⟩, by rw [hd42]; exact lnI_fr fd (by decide) hX, by rw [hd43]; exact lnI_fr fd (by decide) hY, by rw [hd42, fd 45 (by decide)]; exact lX, by rw [hd43, fd 48 (by decide)]; exact lY, (lf_np lX.2.1 lY.2.1).mp d2, f3, fun a b u1 u2 u3 u4 => ?_⟩
  · have := l3 _ _ d3
    rw [hb38, e24, e25] at this
    rw [ha38, ga.2 24 (by decide) (by decide) (by decide), ga.2 25 (by decide) (by decide) (by decide)]
    exact this
  · rw [hd42, ← hc33] at u2
    rw [hd43, ← hc33] at u4
    obtain ⟨g1, g2, g3, g4⟩ := f6 a b u1 u2 u3 u4
    have hn2 : ¬ wd 51 (30 * b + a) = -2 := fun z => d2.2 a b (g1.mp z)
    refine ⟨by omega, ⟨fun z => ?_, fun z => Classical.byContradiction fun q => ?_⟩, g4⟩
    · have : ¬ wd 51 (30 * b + a) = -1 := fun q => g2.mp q z
      omega
    · have := g2.mpr q
      omega
