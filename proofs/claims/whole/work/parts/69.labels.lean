def mX (w : eW) (p q : Int) : Int := (w 38 141 * p + w 38 143 * p) / q
def fX (w : eW) (p q : Int) : Int := (w 38 141 * p + w 38 143 * p) % q
def mY (w : eW) (p q : Int) : Int := (w 38 142 * p + w 38 140 * p) / q
def fY (w : eW) (p q : Int) : Int := (w 38 142 * p + w 38 140 * p) % q
theorem lf_rect {g : Int → Int → Int} {m n i0 j0 s t : Int} (hs : s = 1 ∨ s = 2) (ht : t = 1 ∨ t = 2) (hm : 0 ≤ m) (hn : 0 ≤ n) (i j : Int) : lf i0 j0 s t (sT g m n) i j ↔ ∀ x y, bq s i0 i ≤ x → x ≤ bq s i0 i + m + br s i0 i → bq t j0 j ≤ y → y ≤ bq t j0 j + n + br t j0 j → g x y = 1 := by
  obtain ⟨x1, x2⟩ := bq_eq (o := i0) (i := i) hs
  obtain ⟨y1, y2⟩ := bq_eq (o := j0) (i := j) ht
  unfold lf sT
  constructor
  · rintro ⟨h1, h2, h3, h4⟩ x y a1 a2 a3 a4
    by_cases cx : x ≤ bq s i0 i + m
    · by_cases cy : y ≤ bq t j0 j + n
      · exact h1 x y a1 cx a3 cy
      · exact h3 (by omega) x y a1 cx (by omega) (by omega)
    · by_cases cy : y ≤ bq t j0 j + n
      · exact h2 (by omega) x y (by omega) (by omega) a3 cy
      · exact h4 (by omega) (by omega) x y (by omega) (by omega) (by omega) (by omega)
  · intro h
    exact ⟨fun x y a1 a2 a3 a4 => h x y a1 (by omega) a3 (by omega), fun z x y a1 a2 a3 a4 => h x y (by omega) (by omega) a3 (by omega), fun z x y a1 a2 a3 a4 => h x y a1 (by omega) (by omega) (by omega), fun z z' x y a1 a2 a3 a4 => h x y (by omega) (by omega) (by omega) (by omega)⟩
theorem lf_in {g : Int → Int → Int} {W H m n i0 j0 s t : Int} (hg : ∀ x y, g x y = 1 → 0 ≤ x ∧ x < W ∧ 0 ≤ y ∧ y < H) (hs : s = 1 ∨ s = 2) (ht : t = 1 ∨ t = 2) (hm : 0 ≤ m) (hn : 0 ≤ n) {i j : Int} (h : lf i0 j0 s t (sT g m n) i j) : (0 ≤ bq s i0 i ∧ bq s i0 i + m + br s i0 i < W) ∧ 0 ≤ bq t j0 j ∧ bq t j0 j + n + br t j0 j < H := by
  obtain ⟨x1, x2⟩ := bq_eq (o := i0) (i := i) hs
  obtain ⟨y1, y2⟩ := bq_eq (o := j0) (i := j) ht
  have h2 := (lf_rect hs ht hm hn i j).mp h
  have e1 := hg _ _ (h2 (bq s i0 i) (bq t j0 j) (by omega) (by omega) (by omega) (by omega))
  have e2 := hg _ _ (h2 (bq s i0 i + m + br s i0 i) (bq t j0 j + n + br t j0 j) (by omega) (by omega) (by omega) (by omega))
  omega
/-- a cell between lines is left where nothing has come over its middle -/
theorem cov_lf (w : eW) (p q : Int) (hM : MB w) (hsp : ∀ k, 140 ≤ k → k < 144 → 1 ≤ w 38 k ∧ w 38 k ≤ 9) (hp : 0 ≤ p ∧ p ≤ 10000) (hq : 1 ≤ q ∧ q ≤ 10000) {sX iX sY iY : Int} (lX : LSt (w 45) (w 33 42) q p (w 38 143) (w 38 141) (w 33 24) (mX w p q) (fX w p q) sX iX) (lY : LSt (w 48) (w 33 43) q p (w 38 140) (w 38 142) (w 33 25) (mY w p q) (fY w p q) sY iY) {i j : Int} (gi : 0 ≤ bq sX iX i ∧ bq sX iX i + mX w p q + br sX iX i < w 33 24) (gj : 0 ≤ bq sY iY j ∧ bq sY iY j + mY w p q + br sY iY j < w 33 25) : (∃ x y, cvP w (w 45 i + w 45 (i + 1)) (w 48 j + w 48 (j + 1)) p q x y) ↔ ¬ lf iX iY sX sY (sT (gM w) (mX w p q) (mY w p q)) i j := by
  have s0 := hsp 140 (by decide) (by decide)
  have s1 := hsp 141 (by decide) (by decide)
  have s2 := hsp 142 (by decide) (by decide)
  have s3 := hsp 143 (by decide) (by decide)
  have dX : 0 ≤ w 38 141 * p + w 38 143 * p := by
    have := Int.mul_nonneg (show 0 ≤ w 38 141 by omega) hp.1
    have := Int.mul_nonneg (show 0 ≤ w 38 143 by omega) hp.1
    omega
  have dY : 0 ≤ w 38 142 * p + w 38 140 * p := by
    have := Int.mul_nonneg (show 0 ≤ w 38 142 by omega) hp.1
    have := Int.mul_nonneg (show 0 ≤ w 38 140 by omega) hp.1
    omega
  have eX : w 38 141 * p + w 38 143 * p = mX w p q * q + fX w p q := by
    have := Int.mul_ediv_add_emod (w 38 141 * p + w 38 143 * p) q
    rw [Int.mul_comm] at this; exact this.symm
  have eY : w 38 142 * p + w 38 140 * p = mY w p q * q + fY w p q := by
    have := Int.mul_ediv_add_emod (w 38 142 * p + w 38 140 * p) q
    rw [Int.mul_comm] at this; exact this.symm
  have cX := ls_col lX (by omega) ⟨Int.emod_nonneg _ (by omega), Int.emod_lt_of_pos _ (by omega)⟩ eX gi.1 gi.2
  have cY := ls_col lY (by omega) ⟨Int.emod_nonneg _ (by omega), Int.emod_lt_of_pos _ (by omega)⟩ eY gj.1 gj.2
  have m0 : 0 ≤ mX w p q := Int.ediv_nonneg dX (by omega)
  have n0 : 0 ≤ mY w p q := Int.ediv_nonneg dY (by omega)
  obtain ⟨x1, x2⟩ := bq_eq (o := iX) (i := i) lX.2.1
  obtain ⟨y1, y2⟩ := bq_eq (o := iY) (i := j) lY.2.1
  rw [lf_rect lX.2.1 lY.2.1 m0 n0]
  constructor
  · rintro ⟨x, y, e1, e2, e3, e4, e5, e6, e7, e8, e9⟩ h
    have h1 := (cX x).1.mp ⟨e8, e9⟩
    have h2 := (cY y).2.mp ⟨e6, e7⟩
    exact e5 (gM_1.mp (h x y h1.1 h1.2 h2.1 h2.2))
  · intro h
    refine Classical.byContradiction fun z => h (fun x y a1 a2 a3 a4 => ?_)
    refine Classical.byContradiction fun z2 => z ⟨x, y, by omega, by omega, by omega, by omega, fun q2 => z2 (gM_1.mpr q2), ?_⟩
    have h1 := (cX x).1.mpr ⟨a1, a2⟩
    have h2 := (cY y).2.mpr ⟨a3, a4⟩
    exact ⟨h2.1, h2.2, h1.1, h1.2⟩
theorem y_laysLab (w : eW) (p q : Int) (hM : MB w) (hsp : ∀ k, 140 ≤ k → k < 144 → 1 ≤ w 38 k ∧ w 38 k ≤ 9) (hp : 0 ≤ p ∧ p ≤ 10000) (hq : 1 ≤ q ∧ q ≤ 10000) {sX iX sY iY : Int} (hX : lnI w 45 46 47 (w 33 42) q p (w 38 143) (w 38 141) (w 33 24) (w 33 24 + 1)) (hY : lnI w 48 49 50 (w 33 43) q p (w 38 140) (w 38 142) (w 33 25) (w 33 25 + 1)) (lX : LSt (w 45) (w 33 42) q p (w 38 143) (w 38 141) (w 33 24) (mX w p q) (fX w p q) sX iX) (lY : LSt (w 48) (w 33 43) q p (w 38 140) (w 38 142) (w 33 25) (mY w p q) (fY w p q) sY iY) : ∃ w1, Fr [51] w w1 ∧ (∀ a b, 0 ≤ a → a < w 33 42 - 1 → 0 ≤ b → b < w 33 43 - 1 → (lf iX iY sX sY (sT (gM w) (mX w p q) (mY w p q)) a b → w1 51 (30 * b + a) = -2) ∧ (¬ lf iX iY sX sY (sT (gM w) (mX w p q) (mY w p q)) a b → w1 51 (30 * b + a) = -1)) ∧ ∀ (r : Option eV) (w9 : eW), Go mX8_lays 434 [(0, eR 33), (7, (0, 0))] [] (eU w1 33 44 0) r w9 → Go mX8_lays 260 [(0, eR 33), (1, (0, p)), (2, (0, q)), (3, (0, (w 38 143) * p)), (4, (0, ((w 33 24) * q) - ((w 38 141) * p))), (5, (0, (w 38 140) * p)), (6, (0, ((w 33 25) * q) - ((w 38 142) * p))), (7, (0, 0))] [] w r w9 := by
  obtain ⟨⟨c1, c2, c3, c4, c5, c6, c7, c8, c9, c10⟩, c11, c12, c13⟩ := id hM
  have s0 := hsp 140 (by decide) (by decide)
  have s1 := hsp 141 (by decide) (by decide)
  have s2 := hsp 142 (by decide) (by decide)
  have s3 := hsp 143 (by decide) (by decide)
  obtain ⟨nX, srX, enX, cvX⟩ := id hX
  obtain ⟨nY, srY, enY, cvY⟩ := id hY
  have bX : ∀ i, 0 ≤ i → i < w 33 42 → -300000 ≤ w 45 i ∧ w 45 i ≤ 300000 := fun i z1 z2 => enP_b hp hq s3 s1 (by omega) (enX i z1 z2)
  have bY : ∀ i, 0 ≤ i → i < w 33 43 → -300000 ≤ w 48 i ∧ w 48 i ≤ 300000 := fun i z1 z2 => enP_b hp hq s0 s2 (by omega) (enY i z1 z2)
  have p1 := e_mulb (a := w 38 143) (b := p) (A := 9) (B := 10000) (by omega) (by omega) (by decide)
  have p2 := e_mulb (a := w 38 141) (b := p) (A := 9) (B := 10000) (by omega) (by omega) (by decide)
  have p3 := e_mulb (a := w 38 140) (b := p) (A := 9) (B := 10000) (by omega) (by omega) (by decide)
  have p4 := e_mulb (a := w 38 142) (b := p) (A := 9) (B := 10000) (by omega) (by omega) (by decide)
  have p5 := e_mulb (a := w 33 24) (b := q) (A := 14) (B := 10000) (by omega) (by omega) (by decide)
  have p6 := e_mulb (a := w 33 25) (b := q) (A := 14) (B := 10000) (by omega) (by omega) (by decide)
  have m0 : 0 ≤ mX w p q := Int.ediv_nonneg (by
    have := Int.mul_nonneg (show 0 ≤ w 38 141 by omega) hp.1
    have := Int.mul_nonneg (show 0 ≤ w 38 143 by omega) hp.1
    omega) (by omega)
  have n0 : 0 ≤ mY w p q := Int.ediv_nonneg (by
    have := Int.mul_nonneg (show 0 ≤ w 38 142 by omega) hp.1
    have := Int.mul_nonneg (show 0 ≤ w 38 140 by omega) hp.1
    omega) (by omega)
  have key := loop_up (P := fun j => ∀ w0, Fr [51] w w0 → (∀ a b, 0 ≤ a → a < w 33 42 - 1 → 0 ≤ b → b < j → (lf iX iY sX sY (sT (gM w) (mX w p q) (mY w p q)) a b → w0 51 (30 * b + a) = -2) ∧ (¬ lf iX iY sX sY (sT (gM w) (mX w p q) (mY w p q)) a b → w0 51 (30 * b + a) = -1)) → ∃ w1, Fr [51] w w1 ∧ (∀ a b, 0 ≤ a → a < w 33 42 - 1 → 0 ≤ b → b < w 33 43 - 1 → (lf iX iY sX sY (sT (gM w) (mX w p q) (mY w p q)) a b → w1 51 (30 * b + a) = -2) ∧ (¬ lf iX iY sX sY (sT (gM w) (mX w p q) (mY w p q)) a b → w1 51 (30 * b + a) = -1)) ∧ ∀ (r : Option eV) (w9 : eW), Go mX8_lays 434 [(0, eR 33), (7, (0, 0))] [] (eU w1 33 44 0) r w9 → Go mX8_lays 260 [(0, eR 33), (1, (0, p)), (2, (0, q)), (3, (0, (w 38 143) * p)), (4, (0, ((w 33 24) * q) - ((w 38 141) * p))), (5, (0, (w 38 140) * p)), (6, (0, ((w 33 25) * q) - ((w 38 142) * p))), (7, (0, j))] [] w0 r w9) 0 (max 0 (w 33 43 - 1)) ?_ ?_ 0 (by omega) (by omega) w Fr.rf (fun a b z1 z2 z3 z4 => by omega)
  · exact key
  · intro w0 f0 hI
    have e33 : w0 33 = w 33 := f0 33 (by decide)
    refine ⟨w0, f0, fun a b z1 z2 z3 z4 => hI a b z1 z2 z3 (by omega), fun r w9 hgo => ?_⟩
    apply tX8_lays_260 w0 p q _ _ _ _ _ (by rw [e33]; omega) (by omega)
    · intro z; rw [e33] at z; omega
    · intro _; exact hgo
  · intro j hj1 hj2 ih w0 f0 hI
    have e33 : w0 33 = w 33 := f0 33 (by decide)
    have row := loop_up (P := fun i => ∀ w0, Fr [51] w w0 → (∀ a b, 0 ≤ a → a < w 33 42 - 1 → 0 ≤ b → (b < j ∨ (b = j ∧ a < i)) → (lf iX iY sX sY (sT (gM w) (mX w p q) (mY w p q)) a b → w0 51 (30 * b + a) = -2) ∧ (¬ lf iX iY sX sY (sT (gM w) (mX w p q) (mY w p q)) a b → w0 51 (30 * b + a) = -1)) → ∃ w1, Fr [51] w w1 ∧ (∀ a b, 0 ≤ a → a < w 33 42 - 1 → 0 ≤ b → b < j + 1 → (lf iX iY sX sY (sT (gM w) (mX w p q) (mY w p q)) a b → w1 51 (30 * b + a) = -2) ∧ (¬ lf iX iY sX sY (sT (gM w) (mX w p q) (mY w p q)) a b → w1 51 (30 * b + a) = -1)) ∧ ∀ (r : Option eV) (w9 : eW), Go mX8_lays 260 [(0, eR 33), (1, (0, p)), (2, (0, q)), (3, (0, (w 38 143) * p)), (4, (0, ((w 33 24) * q) - ((w 38 141) * p))), (5, (0, (w 38 140) * p)), (6, (0, ((w 33 25) * q) - ((w 38 142) * p))), (7, (0, j + 1))] [] w1 r w9 → Go mX8_lays 274 [(0, eR 33), (1, (0, p)), (2, (0, q)), (3, (0, (w 38 143) * p)), (4, (0, ((w 33 24) * q) - ((w 38 141) * p))), (5, (0, (w 38 140) * p)), (6, (0, ((w 33 25) * q) - ((w 38 142) * p))), (7, (0, j)), (8, (0, i))] [] w0 r w9) 0 (max 0 (w 33 42 - 1)) ?_ ?_ 0 (by omega) (by omega) w0 f0 (fun a b z1 z2 z3 z4 => hI a b z1 z2 z3 (by omega))
    · obtain ⟨w1, k1, k2, k3⟩ := row
      obtain ⟨w2, l1, l2, l3⟩ := ih w1 k1 k2
      refine ⟨w2, l1, l2, fun r w9 hgo => ?_⟩
      apply tX8_lays_260 w0 p q _ _ _ _ _ (by rw [e33]; omega) (by omega)
      · intro _; exact k3 _ _ (l3 r w9 hgo)
      · intro z; rw [e33] at z; omega
    · intro w0 f0 hI
      have e33 : w0 33 = w 33 := f0 33 (by decide)
      have e45 : w0 45 = w 45 := f0 45 (by decide)
      have e48 : w0 48 = w 48 := f0 48 (by decide)
      refine ⟨w0, f0, fun a b z1 z2 z3 z4 => hI a b z1 z2 z3 (by omega), fun r w9 hgo => ?_⟩
      have y1 := bY j hj1 (by omega)
      have y2 := bY (j + 1) (by omega) (by omega)
      apply tX8_lays_274 w0 p q _ _ _ _ _ _ (cv := 0) (by rw [e33]; omega) (by omega) (by omega) (fun z => absurd z (by rw [e33]; omega)) (by rw [e48]; omega) (by omega) (by omega) (by omega) (by omega) (Or.inl rfl) (fun z => absurd z (by rw [e33]; omega))
      · intro z; rw [e33] at z; omega
      · intro z; rw [e33] at z; omega
      · intro z; rw [e33] at z; omega
      · intro z; rw [e33] at z; omega
      · intro z; rw [e33] at z; omega
      · intro z; rw [e33] at z; omega
      · intro _; exact hgo
    · intro i hi1 hi2 ihi w0 f0 hI
      have e33 : w0 33 = w 33 := f0 33 (by decide)
      have e45 : w0 45 = w 45 := f0 45 (by decide)
      have e48 : w0 48 = w 48 := f0 48 (by decide)
      have e38 : w0 38 = w 38 := f0 38 (by decide)
      have y1 := bY j hj1 (by omega)
      have y2 := bY (j + 1) (by omega) (by omega)
      have x1 := bX i hi1 (by omega)
      have x2 := bX (i + 1) (by omega) (by omega)
      have hM0 : MB w0 := MB_L (FrL.of f0 (by decide) (by decide)) hM
      have hcov := y_X8_isCovered w0 (w 45 i + w 45 (i + 1)) (w 48 j + w 48 (j + 1)) p q hM0 (by rw [e38]; exact hsp) hp hq (by omega) (by omega)
      have ecv : (∃ x y, cvP w0 (w 45 i + w 45 (i + 1)) (w 48 j + w 48 (j + 1)) p q x y) ↔ (∃ x y, cvP w (w 45 i + w 45 (i + 1)) (w 48 j + w 48 (j + 1)) p q x y) := by
        unfold cvP
        rw [e33, e38]
        have : ∀ x y, insM w0 x y ↔ insM w x y := insM_L (FrL.of f0 (by decide) (by decide))
        simp only [this]
      rw [bI_congr ecv] at hcov
      have inX := lX.2.2.2.2.1 i hi1 (by omega)
      have inY := lY.2.2.2.2.1 j hj1 (by omega)
      have fin : ∀ v, (lf iX iY sX sY (sT (gM w) (mX w p q) (mY w p q)) i j → v = -2) → (¬ lf iX iY sX sY (sT (gM w) (mX w p q) (mY w p q)) i j → v = -1) → ∃ w1, Fr [51] w w1 ∧ (∀ a b, 0 ≤ a → a < w 33 42 - 1 → 0 ≤ b → b < j + 1 → (lf iX iY sX sY (sT (gM w) (mX w p q) (mY w p q)) a b → w1 51 (30 * b + a) = -2) ∧ (¬ lf iX iY sX sY (sT (gM w) (mX w p q) (mY w p q)) a b → w1 51 (30 * b + a) = -1)) ∧ ∀ (r : Option eV) (w9 : eW), Go mX8_lays 260 [(0, eR 33), (1, (0, p)), (2, (0, q)), (3, (0, (w 38 143) * p)), (4, (0, ((w 33 24) * q) - ((w 38 141) * p))), (5, (0, (w 38 140) * p)), (6, (0, ((w 33 25) * q) - ((w 38 142) * p))), (7, (0, j + 1))] [] w1 r w9 → Go mX8_lays 274 [(0, eR 33), (1, (0, p)), (2, (0, q)), (3, (0, (w 38 143) * p)), (4, (0, ((w 33 24) * q) - ((w 38 141) * p))), (5, (0, (w 38 140) * p)), (6, (0, ((w 33 25) * q) - ((w 38 142) * p))), (7, (0, j)), (8, (0, i + 1))] [] (eU w0 51 (30 * j + i) v) r w9 := by
        intro v v1 v2
        refine ihi (eU w0 51 (30 * j + i) v) (f0.put (by decide)) (fun a b z1 z2 z3 z4 => ?_)
        rw [eU_get]
        by_cases hc : a = i ∧ b = j
        · rw [if_pos (by omega), hc.1, hc.2]; exact ⟨v1, v2⟩
        · rw [if_neg (by omega)]; exact hI a b z1 z2 z3 (by omega)
      have hb := bI_b (∃ x y, cvP w (w 45 i + w 45 (i + 1)) (w 48 j + w 48 (j + 1)) p q x y)
      by_cases hin : (w 38 143 * p ≤ w 45 i ∧ w 45 (i + 1) ≤ w 33 24 * q - w 38 141 * p) ∧ (w 38 140 * p ≤ w 48 j ∧ w 48 (j + 1) ≤ w 33 25 * q - w 38 142 * p)
      · have gi := inX.mp hin.1
        have gj := inY.mp hin.2
        have hcl := cov_lf w p q hM hsp hp hq lX lY gi gj
        by_cases hl : lf iX iY sX sY (sT (gM w) (mX w p q) (mY w p q)) i j
        · have e0 : bI (∃ x y, cvP w (w 45 i + w 45 (i + 1)) (w 48 j + w 48 (j + 1)) p q x y) = 0 := bI_0 (fun z => (hcl.mp z) hl)
          rw [e0] at hcov
          obtain ⟨w1, k1, k2, k3⟩ := fin (-2) (fun _ => rfl) (fun z => absurd hl z)
          refine ⟨w1, k1, k2, fun r w9 hgo => ?_⟩
          have k4 := k3 r w9 hgo
          apply tX8_lays_274 w0 p q _ _ _ _ _ _ (by rw [e33]; omega) (by omega) (by omega) (fun _ => by rw [e45]; omega) (by rw [e48]; omega) (by omega) (by omega) (by omega) (by omega) (Or.inl rfl) (fun _ _ _ _ _ => by rw [e45, e48]; exact hcov)
          · intro _ z; rw [e45] at z; omega
          · intro _ _ z; rw [e45] at z; omega
          · intro _ _ _ z; rw [e48] at z; omega
          · intro _ _ _ _ z; rw [e48] at z; omega
          · intro _ _ _ _ _ _; exact k4
          · intro _ _ _ _ _ z; exact absurd rfl z
          · intro z; rw [e33] at z; omega
        · have e0 : bI (∃ x y, cvP w (w 45 i + w 45 (i + 1)) (w 48 j + w 48 (j + 1)) p q x y) = 1 := bI_1 (hcl.mpr hl)
          rw [e0] at hcov
          obtain ⟨w1, k1, k2, k3⟩ := fin (-1) (fun z => absurd z hl) (fun _ => rfl)
          refine ⟨w1, k1, k2, fun r w9 hgo => ?_⟩
          have k4 := k3 r w9 hgo
          apply tX8_lays_274 w0 p q _ _ _ _ _ _ (by rw [e33]; omega) (by omega) (by omega) (fun _ => by rw [e45]; omega) (by rw [e48]; omega) (by omega) (by omega) (by omega) (by omega) (Or.inr rfl) (fun _ _ _ _ _ => by rw [e45, e48]; exact hcov)
          · intro _ z; rw [e45] at z; omega
          · intro _ _ z; rw [e45] at z; omega
          · intro _ _ _ z; rw [e48] at z; omega
          · intro _ _ _ _ z; rw [e48] at z; omega
          · intro _ _ _ _ _ z; exact absurd z (by decide)
          · intro _ _ _ _ _ _; exact k4
          · intro z; rw [e33] at z; omega
      · have hl : ¬ lf iX iY sX sY (sT (gM w) (mX w p q) (mY w p q)) i j := fun z => by
          have := lf_in gM_in lX.2.1 lY.2.1 m0 n0 z
          exact hin ⟨inX.mpr this.1, inY.mpr this.2⟩
        obtain ⟨w1, k1, k2, k3⟩ := fin (-1) (fun z => absurd z hl) (fun _ => rfl)
        refine ⟨w1, k1, k2, fun r w9 hgo => ?_⟩
        have k4 := k3 r w9 hgo
        apply tX8_lays_274 w0 p q _ _ _ _ _ _ (by rw [e33]; omega) (by omega) (by omega) (fun _ => by rw [e45]; omega) (by rw [e48]; omega) (by omega) (by omega) (by omega) (by omega) hb (fun _ _ _ _ _ => by rw [e45, e48]; exact hcov)
        · intro _ _; exact k4
        · intro _ _ _; exact k4
        · intro _ _ _ _; exact k4
        · intro _ _ _ _ _; exact k4
        · intro _ z1 z2 z3 z4; rw [e45] at z1 z2; rw [e48] at z3 z4; exact absurd ⟨⟨by omega, by omega⟩, by omega, by omega⟩ hin
        · intro _ z1 z2 z3 z4; rw [e45] at z1 z2; rw [e48] at z3 z4; exact absurd ⟨⟨by omega, by omega⟩, by omega, by omega⟩ hin
        · intro z; rw [e33] at z; omega
