/-- the bases of two lines side by side, and how they move -/
theorem ls_bm {w0 : eW} {o ob om : Nat} {n q p va vb W m ff s i0 a : Int} (hI : lnI w0 o ob om n q p va vb W a) (h : LSt (w0 o) n q p va vb W m ff s i0) (hq : 0 < q) (hf : 0 < ff ∧ ff < q) (e : vb * p + va * p = m * q + ff) {i : Int} (g1 : 0 ≤ bq s i0 i) (g2 : bq s i0 i + m + br s i0 i < W) : w0 ob (i + 1) - w0 ob i = (if br s i0 i = 1 then -m else m + 1) ∧ w0 om (i + 1) - w0 om i = (if br s i0 i = 1 then va + vb else -(va + vb)) := by
  obtain ⟨k1, k2, k3⟩ := h.2.2.2.2.2 i g1 g2
  have l1 := hI.2.2.1 i k1.1 (by omega)
  have l2 := hI.2.2.1 (i + 1) (by omega) k1.2
  obtain ⟨a1, a2, a3⟩ := l1
  obtain ⟨b1, b2, b3⟩ := l2
  rw [k2] at a1
  rw [k3] at b1
  generalize bq s i0 i = k at *
  -- a line of the first kind
  have A : ∀ b mv, (mv = va ∨ mv = -vb) → ∀ c, c * q + va * p = b * q + mv * p → b = c ∧ mv = va := by
    intro b mv hmv c hc
    rcases hmv with rfl | rfl
    · refine ⟨?_, rfl⟩
      rcases Int.lt_trichotomy b c with z | z | z
      · have := q_le (q := q) (by omega) (show b + 1 ≤ c by omega); rw [q_s] at this; omega
      · exact z
      · have := q_le (q := q) (by omega) (show c + 1 ≤ b by omega); rw [q_s] at this; omega
    · exfalso
      rw [Int.neg_mul] at hc
      rcases Int.lt_or_le b (c + m + 1) with z | z
      · have := q_le (q := q) (by omega) (show b ≤ c + m by omega); rw [Int.add_mul] at this; omega
      · have := q_le (q := q) (by omega) z; rw [q_s, Int.add_mul] at this; omega
  have B : ∀ b mv, (mv = va ∨ mv = -vb) → ∀ c, c * q + va * p + (q - ff) = b * q + mv * p → b = c + m + 1 ∧ mv = -vb := by
    intro b mv hmv c hc
    rcases hmv with rfl | rfl
    · exfalso
      rcases Int.lt_or_le b (c + 1) with z | z
      · have := q_le (q := q) (by omega) (show b ≤ c by omega); omega
      · have := q_le (q := q) (by omega) z; rw [q_s] at this; omega
    · refine ⟨?_, rfl⟩
      rw [Int.neg_mul] at hc
      rcases Int.lt_trichotomy b (c + m + 1) with z | z | z
      · have := q_le (q := q) (by omega) (show b ≤ c + m by omega); rw [Int.add_mul] at this; omega
      · exact z
      · have := q_le (q := q) (by omega) (show c + m + 1 + 1 ≤ b by omega); rw [q_s, q_s, Int.add_mul] at this; omega
  by_cases hb : br s i0 i = 1
  · rw [if_pos hb] at a1 b1
    rw [if_pos hb, if_pos hb]
    obtain ⟨c1, c2⟩ := B (w0 ob i) (w0 om i) a3 k a1
    obtain ⟨d1, d2⟩ := A (w0 ob (i + 1)) (w0 om (i + 1)) b3 (k + 1) (by rw [q_s]; omega)
    omega
  · rw [if_neg hb] at a1 b1
    rw [if_neg hb, if_neg hb]
    obtain ⟨c1, c2⟩ := A (w0 ob i) (w0 om i) a3 k (by omega)
    obtain ⟨d1, d2⟩ := B (w0 ob (i + 1)) (w0 om (i + 1)) b3 k b1
    omega
section LAYW
variable {wz w : eW} {p q sX iX sY iY : Int} {n : Nat}
theorem lay_sumW (hM : MB wz) (hsp : ∀ k, 140 ≤ k → k < 144 → 1 ≤ wz 38 k ∧ wz 38 k ≤ 9) (hp : 0 ≤ p ∧ p ≤ 10000) (hq : 1 ≤ q ∧ q ≤ 10000) (hL : LAY wz w p q sX iX sY iY n) {uA uB vA vB : Int} (hs : (∀ x y, ¬ (sT (gM wz) (mX wz p q) (mY wz p q)) x y) ∨ (sX = 2 ∧ sY = 2)) {t : Int → Int → Int} (ht : ∀ a b, 0 ≤ a → a < w 33 42 - 1 → 0 ≤ b → b < w 33 43 - 1 → (lf iX iY sX sY (sT (gM wz) (mX wz p q) (mY wz p q)) a b → t a b = (if br sX iX a = 1 then uB else uA) * (if br sY iY b = 1 then vB else vA)) ∧ (¬ lf iX iY sX sY (sT (gM wz) (mX wz p q) (mY wz p q)) a b → t a b = 0)) : sumI (fun b => sumI (fun a => t a b) 0 (w 33 42 - 1)) 0 (w 33 43 - 1) = (ct1 (sT (gM wz) (mX wz p q) (mY wz p q)) * uA + ctX (sT (gM wz) (mX wz p q) (mY wz p q)) * uB) * vA + (ctY (sT (gM wz) (mX wz p q) (mY wz p q)) * uA + ctB (sT (gM wz) (mX wz p q) (mY wz p q)) * uB) * vB := by
  have d := lay_d hM hsp hp hq hL
  obtain ⟨l1, l2, l3, l4, l5, l6, l7, l8, l9⟩ := id hL
  rcases hs with hs | hs
  · have e : (sT (gM wz) (mX wz p q) (mY wz p q)) = fun _ _ => False := by
      funext x y
      exact propext ⟨fun z => hs x y z, fun z => z.elim⟩
    rw [sumI_z (fun b b1 b2 => sumI_z (fun a a1 a2 => (ht a b a1 a2 b1 b2).2 (fun z => hs _ _ z.1))), e]
    obtain ⟨e1, e2, e3, e4⟩ := ct_none
    rw [e1, e2, e3, e4]
    simp
  · have eG : (fun k l => (sT (gM wz) (mX wz p q) (mY wz p q)) k l ∧ True) = (sT (gM wz) (mX wz p q) (mY wz p q)) := by
      funext k l
      exact propext ⟨fun z => z.1, fun z => ⟨z, trivial⟩⟩
    have key := wsum (P := fun a b => lf iX iY sX sY (sT (gM wz) (mX wz p q) (mY wz p q)) a b) (C := fun _ _ => True) (T := (sT (gM wz) (mX wz p q) (mY wz p q))) (uA := uA) (uB := uB) (vA := vA) (vB := vB) (i0 := iX) (j0 := iY) (s := sX) (t := sY) (NX := w 33 42 - 1) (NY := w 33 43 - 1) l5.2.1 l6.2.1 l5.1 l6.1 (by omega) (by omega) d.2.2.2 (fun _ _ _ _ _ _ _ _ => trivial) (fun z => by omega) (fun z => by omega) (fun a b => ⟨fun z => ⟨z, trivial⟩, fun z => z.1⟩) (fun a b z => by
      have := (lay_in hM hsp hp hq hL z).1
      exact ⟨this.1.1, this.1.2, this.2.1, this.2.2⟩)
    rw [eG] at key
    rw [← key]
    refine sumI_congr (fun b b1 b2 => sumI_congr (fun a a1 a2 => ?_))
    by_cases hc : lf iX iY sX sY (sT (gM wz) (mX wz p q) (mY wz p q)) a b
    · rw [(ht a b a1 a2 b1 b2).1 hc, bI_1 hc, Int.one_mul]
    · rw [(ht a b a1 a2 b1 b2).2 hc, bI_0 hc, Int.zero_mul]
end LAYW
theorem y_underK {wz w : eW} {p q sX iX sY iY : Int} {n : Nat} (hM : MB wz) (hsp : ∀ k, 140 ≤ k → k < 144 → 1 ≤ wz 38 k ∧ wz 38 k ≤ 9) (hp : 0 ≤ p ∧ p ≤ 10000) (hq : 1 ≤ q ∧ q ≤ 10000) (hL : LAY wz w p q sX iX sY iY n) (hs : (∀ x y, ¬ (sT (gM wz) (mX wz p q) (mY wz p q)) x y) ∨ (0 < fX wz p q ∧ 0 < fY wz p q)) (l fr k : Int) (hk : 0 ≤ k ∧ k < 32) (h53 : eI (w 53 k)) (r : Option eV) (w9 : eW) (hgo : Go mX8_laysUnder 33 [(0, eR 33), (1, (1, l)), (3, (1, w 53 k)), (5, (0, k + 1))] [] (eU w 33 56 ((w 33 56) + ((((((6 * l) * l) * (pwU (sT (gM wz) (mX wz p q) (mY wz p q)) (mX wz p q) (mY wz p q))) * ((w 53 k) - fr)) + (((3 * l) * (poU (sT (gM wz) (mX wz p q) (mY wz p q)) (mX wz p q) (mY wz p q) (wz 38 141 + wz 38 143) (wz 38 140 + wz 38 142))) * (((w 53 k) * (w 53 k)) - (fr * fr)))) + ((2 * (ptU (sT (gM wz) (mX wz p q) (mY wz p q)) (wz 38 141 + wz 38 143) (wz 38 140 + wz 38 142))) * ((((w 53 k) * (w 53 k)) * (w 53 k)) - ((fr * fr) * fr)))))) r w9) : Go mX8_laysUnder 70 [(0, eR 33), (1, (1, l)), (3, (1, fr)), (5, (0, k)), (6, (1, 0)), (8, (1, 0)), (10, (1, 0)), (12, (0, 0))] [] w r w9 := by
  have d := lay_d hM hsp hp hq hL
  obtain ⟨l1, l2, l3, l4, l5, l6, l7, l8, l9⟩ := id hL
  have s0 := hsp 140 (by decide) (by decide)
  have s1 := hsp 141 (by decide) (by decide)
  have s2 := hsp 142 (by decide) (by decide)
  have s3 := hsp 143 (by decide) (by decide)
  obtain ⟨⟨c1, c2, c3, c4, c5, c6, c7, c8, c9, c10⟩, c11, c12, c13⟩ := id hM
  have hn9 : (n : Int) ≤ 141 := by
    obtain ⟨n', q1, q2⟩ := isNp_ex (W := 14) (H := 10) (by decide) (by decide) d.2.2.2
    have := isNp_one l7 q1
    have := (ctF_b (W := 14) (H := 10) (by decide) (by decide) (sT (gM wz) (mX wz p q) (mY wz p q))).2
    omega
  have eX : wz 38 141 * p + wz 38 143 * p = mX wz p q * q + fX wz p q := by
    have := Int.mul_ediv_add_emod (wz 38 141 * p + wz 38 143 * p) q
    rw [Int.mul_comm] at this; exact this.symm
  have eY : wz 38 142 * p + wz 38 140 * p = mY wz p q * q + fY wz p q := by
    have := Int.mul_ediv_add_emod (wz 38 142 * p + wz 38 140 * p) q
    rw [Int.mul_comm] at this; exact this.symm
  have hs2 : (∀ x y, ¬ (sT (gM wz) (mX wz p q) (mY wz p q)) x y) ∨ (sX = 2 ∧ sY = 2) := by
    rcases hs with hs | hs
    · exact Or.inl hs
    · right
      have := l5.2.1; have := l5.2.2.1; have := l6.2.1; have := l6.2.2.1
      omega
  have wid : ∀ a b, lf iX iY sX sY (sT (gM wz) (mX wz p q) (mY wz p q)) a b → ((w 46 (a + 1) - w 46 a) = (if br sX iX a = 1 then -(mX wz p q) else mX wz p q + 1) ∧ (w 47 (a + 1) - w 47 a) = (if br sX iX a = 1 then (wz 38 141 + wz 38 143) else -(wz 38 141 + wz 38 143))) ∧ ((w 49 (b + 1) - w 49 b) = (if br sY iY b = 1 then -(mY wz p q) else mY wz p q + 1) ∧ (w 50 (b + 1) - w 50 b) = (if br sY iY b = 1 then (wz 38 140 + wz 38 142) else -(wz 38 140 + wz 38 142))) := by
    intro a b hl
    have hne : 0 < fX wz p q ∧ 0 < fY wz p q := hs.elim (fun z => absurd hl.1 (z _ _)) id
    have hin := lf_in gM_in l5.2.1 l6.2.1 d.1.1 d.1.2 hl
    have x1 := ls_bm l3 l5 (by omega) ⟨hne.1, d.2.1.2⟩ eX hin.1.1 hin.1.2
    have y1 := ls_bm l4 l6 (by omega) ⟨hne.2, d.2.2.1.2⟩ eY hin.2.1 hin.2.2
    rw [Int.add_comm (wz 38 143) (wz 38 141)] at x1
    exact ⟨x1, y1⟩
  have lb : ∀ a b, 0 ≤ a → a < w 33 42 - 1 → 0 ≤ b → b < w 33 43 - 1 → (lf iX iY sX sY (sT (gM wz) (mX wz p q) (mY wz p q)) a b ↔ ¬ w 51 (30 * b + a) < 0) := fun a b a1 a2 b1 b2 => by
    have := (l9 a b a1 a2 b1 b2).2.1
    rw [this]
    omega
  generalize h1 : (fun a b => if w 51 (30 * b + a) < 0 then 0 else (w 46 (a + 1) - w 46 a) * (w 49 (b + 1) - w 49 b)) = t1
  generalize h2 : (fun a b => if w 51 (30 * b + a) < 0 then 0 else (w 46 (a + 1) - w 46 a) * (w 50 (b + 1) - w 50 b) + (w 47 (a + 1) - w 47 a) * (w 49 (b + 1) - w 49 b)) = t2
  generalize h3 : (fun a b => if w 51 (30 * b + a) < 0 then 0 else (w 47 (a + 1) - w 47 a) * (w 50 (b + 1) - w 50 b)) = t3
  have e1 : ∀ a b, t1 a b = if w 51 (30 * b + a) < 0 then 0 else (w 46 (a + 1) - w 46 a) * (w 49 (b + 1) - w 49 b) := fun a b => by rw [← h1]
  have e2 : ∀ a b, t2 a b = if w 51 (30 * b + a) < 0 then 0 else (w 46 (a + 1) - w 46 a) * (w 50 (b + 1) - w 50 b) + (w 47 (a + 1) - w 47 a) * (w 49 (b + 1) - w 49 b) := fun a b => by rw [← h2]
  have e3 : ∀ a b, t3 a b = if w 51 (30 * b + a) < 0 then 0 else (w 47 (a + 1) - w 47 a) * (w 50 (b + 1) - w 50 b) := fun a b => by rw [← h3]
  have S1 : dsP t1 (w 33 42 - 1) (w 33 43 - 1) 0 = pwU (sT (gM wz) (mX wz p q) (mY wz p q)) (mX wz p q) (mY wz p q) := by
    rw [dsP_all]
    unfold pwU
    refine lay_sumW hM hsp hp hq hL hs2 (fun a b a1 a2 b1 b2 => ⟨fun z => ?_, fun z => ?_⟩)
    · have := wid a b z
      rw [e1, if_neg ((lb a b a1 a2 b1 b2).mp z), this.1.1, this.2.1]
    · rw [e1, if_pos (Classical.byContradiction fun z2 => z ((lb a b a1 a2 b1 b2).mpr z2))]
  have S3 : dsP t3 (w 33 42 - 1) (w 33 43 - 1) 0 = ptU (sT (gM wz) (mX wz p q) (mY wz p q)) (wz 38 141 + wz 38 143) (wz 38 140 + wz 38 142) := by
    rw [dsP_all]
    unfold ptU
    refine lay_sumW hM hsp hp hq hL hs2 (fun a b a1 a2 b1 b2 => ⟨fun z => ?_, fun z => ?_⟩)
    · have := wid a b z
      rw [e3, if_neg ((lb a b a1 a2 b1 b2).mp z), this.1.2, this.2.2]
    · rw [e3, if_pos (Classical.byContradiction fun z2 => z ((lb a b a1 a2 b1 b2).mpr z2))]
  have S2 : dsP t2 (w 33 42 - 1) (w 33 43 - 1) 0 = poU (sT (gM wz) (mX wz p q) (mY wz p q)) (mX wz p q) (mY wz p q) (wz 38 141 + wz 38 143) (wz 38 140 + wz 38 142) := by
    rw [dsP_all]
    unfold poU
    rw [← lay_sumW hM hsp hp hq hL (uA := mX wz p q + 1) (uB := -(mX wz p q)) (vA := -(wz 38 140 + wz 38 142)) (vB := (wz 38 140 + wz 38 142)) hs2 (t := fun a b => if w 51 (30 * b + a) < 0 then 0 else (w 46 (a + 1) - w 46 a) * (w 50 (b + 1) - w 50 b)) (fun a b a1 a2 b1 b2 => ⟨fun z => by
        have := wid a b z
        show (if _ then _ else _) = _
        rw [if_neg ((lb a b a1 a2 b1 b2).mp z), this.1.1, this.2.2], fun z => by
        show (if _ then _ else _) = _
        rw [if_pos (Classical.byContradiction fun z2 => z ((lb a b a1 a2 b1 b2).mpr z2))]⟩),
      ← lay_sumW hM hsp hp hq hL (uA := -(wz 38 141 + wz 38 143)) (uB := (wz 38 141 + wz 38 143)) (vA := mY wz p q + 1) (vB := -(mY wz p q)) hs2 (t := fun a b => if w 51 (30 * b + a) < 0 then 0 else (w 47 (a + 1) - w 47 a) * (w 49 (b + 1) - w 49 b)) (fun a b a1 a2 b1 b2 => ⟨fun z => by
        have := wid a b z
        show (if _ then _ else _) = _
        rw [if_neg ((lb a b a1 a2 b1 b2).mp z), this.1.2, this.2.1], fun z => by
        show (if _ then _ else _) = _
        rw [if_pos (Classical.byContradiction fun z2 => z ((lb a b a1 a2 b1 b2).mpr z2))]⟩), ← sumI_add]
    refine sumI_congr (fun b b1 b2 => ?_)
    rw [← sumI_add]
    refine sumI_congr (fun a a1 a2 => ?_)
    rw [e2]
    by_cases hc : w 51 (30 * b + a) < 0
    · rw [if_pos hc, if_pos hc, if_pos hc]; rfl
    · rw [if_neg hc, if_neg hc, if_neg hc]
  rw [← S1, ← S2, ← S3] at hgo
  have key := loop_up (P := fun j => Go mX8_laysUnder 70 [(0, eR 33), (1, (1, l)), (3, (1, fr)), (5, (0, k)), (6, (1, dsP t1 (w 33 42 - 1) j 0)), (8, (1, dsP t2 (w 33 42 - 1) j 0)), (10, (1, dsP t3 (w 33 42 - 1) j 0)), (12, (0, j))] [] w r w9) 0 (w 33 43 - 1) ?_ ?_ 0 (by omega) (by omega)
  · rw [dsP_0, dsP_0, dsP_0] at key
    exact key
  · apply tX8_laysUnder_70 w _ _ _ _ _ _ _ l2.2 (by omega) hk h53
    · intro z; omega
    · intro _; exact hgo
  · intro j hj1 hj2 ih
    have row := loop_up (P := fun i => Go mX8_laysUnder 84 [(0, eR 33), (1, (1, l)), (3, (1, fr)), (5, (0, k)), (6, (1, dsP t1 (w 33 42 - 1) j i)), (8, (1, dsP t2 (w 33 42 - 1) j i)), (10, (1, dsP t3 (w 33 42 - 1) j i)), (12, (0, j)), (13, (0, i))] [] w r w9) 0 (w 33 42 - 1) ?_ ?_ 0 (by omega) (by omega)
    · apply tX8_laysUnder_70 w _ _ _ _ _ _ _ l2.2 (by omega) hk h53
      · intro _; exact row
      · intro z; omega
    · rw [dsP_j hj1, dsP_j hj1, dsP_j hj1] at ih
      apply tX8_laysUnder_84 w _ _ _ _ _ _ _ _ l2.1 (by omega) (by omega) (fun z => absurd z (by omega))
      · intro z; omega
      · intro z; omega
      · intro _; exact ih
    · intro i hi1 hi2 ihi
      rw [dsP_i hi1, dsP_i hi1, dsP_i hi1, e1, e2, e3] at ihi
      have lbl := (l9 i j hi1 (by omega) hj1 (by omega)).1
      have x1 := l3.2.2.1 i hi1 (by omega)
      have x2 := l3.2.2.1 (i + 1) (by omega) (by omega)
      have y1 := l4.2.2.1 j hj1 (by omega)
      have y2 := l4.2.2.1 (j + 1) (by omega) (by omega)
      obtain ⟨_, x12, x13⟩ := x1
      obtain ⟨_, x22, x23⟩ := x2
      obtain ⟨_, y12, y13⟩ := y1
      obtain ⟨_, y22, y23⟩ := y2
      apply tX8_laysUnder_84 w _ _ _ _ _ _ _ _ l2.1 (by omega) (by omega) (fun _ => by omega)
      · intro _ z
        rw [if_pos z, if_pos z, if_pos z, Int.add_zero, Int.add_zero, Int.add_zero] at ihi
        exact ihi
      · intro _ z
        rw [if_neg z, if_neg z, if_neg z] at ihi
        exact ihi
      · intro z; omega
