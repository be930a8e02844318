/-- what lays changes -/
def FrL (w w0 : eW) : Prop := Fr [33, 45, 46, 47, 48, 49, 50, 51, 52] w w0 ∧ ∀ i, i ≠ 42 → i ≠ 43 → i ≠ 44 → w0 33 i = w 33 i
theorem FrL.rf {w : eW} : FrL w w := ⟨Fr.rf, fun _ _ _ _ => rfl⟩
theorem FrL.tr {w w1 w2 : eW} (h1 : FrL w w1) (h2 : FrL w1 w2) : FrL w w2 := ⟨h1.1.tr h2.1, fun i a b c => (h2.2 i a b c).trans (h1.2 i a b c)⟩
theorem FrL.of {w w1 : eW} {S : List Nat} (h : Fr S w w1) (h1 : 33 ∉ S) (h2 : ∀ k ∈ S, k ∈ [33, 45, 46, 47, 48, 49, 50, 51, 52]) : FrL w w1 := ⟨h.mono h2, fun i _ _ _ => h.at 33 h1 i⟩
theorem FrL.put {w w1 : eW} {i v : Int} (h : FrL w w1) (hi : i = 42 ∨ i = 43 ∨ i = 44) : FrL w (eU w1 33 i v) := ⟨h.1.put (by decide), fun j a b c => by rw [eU_get, if_neg (by omega)]; exact h.2 j a b c⟩
theorem MB_L {w w0 : eW} (h : FrL w w0) (hM : MB w) : MB w0 := by
  unfold MB at *
  rw [h.1 38 (by decide), h.1 40 (by decide), h.2 24 (by decide) (by decide) (by decide), h.2 25 (by decide) (by decide) (by decide), h.2 26 (by decide) (by decide) (by decide), h.2 27 (by decide) (by decide) (by decide), h.2 28 (by decide) (by decide) (by decide)]
  exact hM
theorem insM_L {w w0 : eW} (h : FrL w w0) (x y : Int) : insM w0 x y ↔ insM w x y := by
  unfold insM
  rw [h.1 38 (by decide), h.2 24 (by decide) (by decide) (by decide), h.2 25 (by decide) (by decide) (by decide)]
theorem gM_L {w w0 : eW} (h : FrL w w0) : gM w0 = gM w := by
  unfold gM insM
  rw [h.1 38 (by decide), h.2 24 (by decide) (by decide) (by decide), h.2 25 (by decide) (by decide) (by decide)]
theorem gM_in {w : eW} : ∀ x y, gM w x y = 1 → 0 ≤ x ∧ x < w 33 24 ∧ 0 ≤ y ∧ y < w 33 25 := fun x y z => by
  obtain ⟨z1, z2, z3, z4, z5⟩ := gM_1.mp z
  omega
/-- a line, with its base and how it moves -/
def enP (q p va vb W v b m : Int) : Prop := v = b * q + m * p ∧ (0 ≤ b ∧ b ≤ W) ∧ (m = va ∨ m = -vb)
theorem enP_b {q p va vb W v b m : Int} (hp : 0 ≤ p ∧ p ≤ 10000) (hq : 1 ≤ q ∧ q ≤ 10000) (ha : 1 ≤ va ∧ va ≤ 9) (hb : 1 ≤ vb ∧ vb ≤ 9) (hW : W ≤ 14) (h : enP q p va vb W v b m) : -300000 ≤ v ∧ v ≤ 300000 := by
  obtain ⟨h1, h2, h3⟩ := h
  have e1 := e_mulb (a := b) (b := q) (A := 14) (B := 10000) (by omega) (by omega) (by decide)
  have e2 := e_mulb (a := m) (b := p) (A := 9) (B := 10000) (by omega) (by omega) (by decide)
  omega
def lnI (w0 : eW) (o ob om : Nat) (n q p va vb W a : Int) : Prop := (0 ≤ n ∧ n ≤ 2 * a) ∧ srt (w0 o) n ∧ (∀ i, 0 ≤ i → i < n → enP q p va vb W (w0 o i) (w0 ob i) (w0 om i)) ∧ ∀ c, 0 ≤ c → c < a → (∃ i, 0 ≤ i ∧ i < n ∧ w0 o i = c * q + va * p) ∧ ∃ i, 0 ≤ i ∧ i < n ∧ w0 o i = c * q - vb * p
theorem lnI_fr {S : List Nat} {w w1 : eW} {o ob om : Nat} {n q p va vb W a : Int} (h : Fr S w w1) (hS : o ∉ S ∧ ob ∉ S ∧ om ∉ S) (hI : lnI w o ob om n q p va vb W a) : lnI w1 o ob om n q p va vb W a := by
  unfold lnI at *
  rw [h o hS.1, h ob hS.2.1, h om hS.2.2]
  exact hI
theorem lnI_st {w0 : eW} {o ob om : Nat} {n q p va vb W : Int} (h : lnI w0 o ob om n q p va vb W (W + 1)) (hq : 1 ≤ q) (hD : 0 ≤ vb * p + va * p) (hW : 0 ≤ W) : ∃ s i0, LSt (w0 o) n q p va vb W ((vb * p + va * p) / q) ((vb * p + va * p) % q) s i0 := by
  obtain ⟨h1, h2, h3, h4⟩ := h
  refine ls_st h2 (fun i i1 i2 => ?_) (fun v hv => ?_) (by omega) (Int.ediv_nonneg hD (by omega)) ⟨Int.emod_nonneg _ (by omega), Int.emod_lt_of_pos _ (by omega)⟩ hW ?_
  · obtain ⟨e1, e2, e3⟩ := h3 i i1 i2
    refine ⟨w0 ob i, e2.1, e2.2, ?_⟩
    rcases e3 with e3 | e3
    · left; rw [e1, e3]
    · right; rw [e1, e3, Int.neg_mul]; omega
  · obtain ⟨a, a1, a2, a3⟩ := hv
    obtain ⟨k1, k2⟩ := h4 a a1 (by omega)
    rcases a3 with a3 | a3
    · rw [a3]; exact k1
    · rw [a3]; exact k2
  · have := Int.mul_ediv_add_emod (vb * p + va * p) q
    rw [Int.mul_comm] at this
    exact this.symm
theorem y_laysX (w : eW) (p q : Int) (hM : MB w) (hsp : ∀ k, 140 ≤ k → k < 144 → 1 ≤ w 38 k ∧ w 38 k ≤ 9) (hp : 0 ≤ p ∧ p ≤ 10000) (hq : 1 ≤ q ∧ q ≤ 10000) (h0 : w 33 42 = 0) : ∃ w1, FrL w w1 ∧ Fr [33, 45, 46, 47] w w1 ∧ (∀ i, i ≠ 42 → w1 33 i = w 33 i) ∧ lnI w1 45 46 47 (w1 33 42) q p (w 38 143) (w 38 141) (w 33 24) (w 33 24 + 1) ∧ ∀ (r : Option eV) (w9 : eW), Go mX8_lays 111 [(0, eR 33), (1, (0, p)), (2, (0, q)), (3, (0, 0))] [] w1 r w9 → Go mX8_lays 12 [(0, eR 33), (1, (0, p)), (2, (0, q)), (3, (0, 0))] [] w r w9 := by
  obtain ⟨⟨c1, c2, c3, c4, c5, c6, c7, c8, c9, c10⟩, c11, c12, c13⟩ := id hM
  have sa := hsp 143 (by decide) (by decide)
  have sb := hsp 141 (by decide) (by decide)
  have key := loop_up (P := fun a => ∀ w0, FrL w w0 → Fr [33, 45, 46, 47] w w0 → (∀ i, i ≠ 42 → w0 33 i = w 33 i) → lnI w0 45 46 47 (w0 33 42) q p (w 38 143) (w 38 141) (w 33 24) (a) → ∃ w1, FrL w w1 ∧ Fr [33, 45, 46, 47] w w1 ∧ (∀ i, i ≠ 42 → w1 33 i = w 33 i) ∧ lnI w1 45 46 47 (w1 33 42) q p (w 38 143) (w 38 141) (w 33 24) (w 33 24 + 1) ∧ ∀ (r : Option eV) (w9 : eW), Go mX8_lays 111 [(0, eR 33), (1, (0, p)), (2, (0, q)), (3, (0, 0))] [] w1 r w9 → Go mX8_lays 12 [(0, eR 33), (1, (0, p)), (2, (0, q)), (3, (0, a))] [] w0 r w9) 0 (w 33 24 + 1) ?_ ?_ 0 (by omega) (by omega) w FrL.rf Fr.rf (fun _ _ => rfl) ⟨by omega, fun i i1 i2 => by omega, fun i i1 i2 => by omega, fun c i1 i2 => by omega⟩
  · exact key
  · intro w0 f1 f2 f3 hI
    have e38 : w0 38 = w 38 := f1.1 38 (by decide)
    refine ⟨w0, f1, f2, f3, hI, fun r w9 hgo => ?_⟩
    apply tX8_lays_12 w0 p q _ (w1 := w0) (w2 := w0) (n1 := 0) (n2 := 0) (MB_L f1 hM) (by omega) rfl (fun z => absurd (show w0 33 24 < w 33 24 + 1 by rw [f3 24 (by decide)]; omega) z) (fun z => absurd (show w0 33 24 < w 33 24 + 1 by rw [f3 24 (by decide)]; omega) z)
    · intro _
      exact hgo
    · intro z; rw [f3 24 (by decide)] at z; omega
  · intro a ha1 ha2 ih w0 f1 f2 f3 hI
    have e38 : w0 38 = w 38 := f1.1 38 (by decide)
    obtain ⟨i1, i2, i3, i4⟩ := hI
    have hen : ∀ i, 0 ≤ i → i < w0 33 42 → eI (w0 45 i) := fun i z1 z2 => by
      have := enP_b hp hq sa sb (by omega) (i3 i z1 z2); omega
    have b1 := e_mulb (a := a) (b := q) (A := 14) (B := 10000) (by omega) (by omega) (by decide)
    have b2 := e_mulb (a := w 38 143) (b := p) (A := 9) (B := 10000) (by omega) (by omega) (by decide)
    have b3 := e_mulb (a := w 38 141) (b := p) (A := 9) (B := 10000) (by omega) (by omega) (by decide)
    obtain ⟨w1, n1, d1, d2, d3, d4, d5, d6, d7⟩ := y_X8_comes45 w0 (w0 33 42) (a * q + w 38 143 * p) a (w 38 143) (by omega) (by omega) i2 hen
    have d8 := d7 (enP q p (w 38 143) (w 38 141) (w 33 24)) i3 ⟨rfl, ⟨by omega, by omega⟩, Or.inl rfl⟩
    have hen2 : ∀ i, 0 ≤ i → i < n1 → eI ((eU w1 33 42 n1) 45 i) := fun i z1 z2 => by
      rw [eU_ne (by decide)]
      have := enP_b hp hq sa sb (by omega) (d8 i z1 z2); omega
    obtain ⟨w2, n2, g1, g2, g3, g4, g5, g6, g7⟩ := y_X8_comes45 (eU w1 33 42 n1) n1 (a * q - w 38 141 * p) a (-(w 38 141)) (by omega) (by omega) (by rw [eU_ne (by decide)]; exact d4) hen2
    rw [eU_ne (show 45 ≠ 33 by decide), eU_ne (show 46 ≠ 33 by decide), eU_ne (show 47 ≠ 33 by decide)] at g7
    rw [eU_ne (show 45 ≠ 33 by decide)] at g5
    have g8 := g7 (enP q p (w 38 143) (w 38 141) (w 33 24)) d8 ⟨by rw [Int.neg_mul]; omega, ⟨by omega, by omega⟩, Or.inr rfl⟩
    have F1 : Fr [33, 45, 46, 47] w0 (eU w2 33 42 n2) := (((d2.mono (by decide)).put (i := 42) (v := n1) (o := 33) (by decide)).tr (g2.mono (by decide))).put (by decide)
    have F2 : ∀ i, i ≠ 42 → (eU w2 33 42 n2) 33 i = w0 33 i := fun i hi => by
      rw [eU_get, if_neg hi, g2.at 33 (by decide), eU_get, if_neg hi, d2.at 33 (by decide)]
    obtain ⟨w3, k1, k2, k3, k4, k5⟩ := ih (eU w2 33 42 n2) (f1.tr ⟨F1.mono (by decide), fun i z1 z2 z3 => F2 i (by omega)⟩) (f2.tr F1) (fun i hi => (F2 i hi).trans (f3 i hi)) (by
      unfold lnI
      rw [eU_get, if_pos rfl, eU_ne (show 45 ≠ 33 by decide), eU_ne (show 46 ≠ 33 by decide), eU_ne (show 47 ≠ 33 by decide)]
      refine ⟨by omega, g4, g8, fun c z1 z2 => ?_⟩
      by_cases hc : c = a
      · subst hc
        obtain ⟨j, j1, j2, j3⟩ := d6
        obtain ⟨j', j4, j5, j6⟩ := g5 j j1 j2
        exact ⟨⟨j', j4, j5, j6.trans j3⟩, g6⟩
      · obtain ⟨⟨j, j1, j2, j3⟩, ⟨l, l1, l2, l3⟩⟩ := i4 c z1 (by omega)
        obtain ⟨j', j4, j5, j6⟩ := d5 j j1 j2
        obtain ⟨j'', j7, j8, j9⟩ := g5 j' j4 j5
        obtain ⟨l', l4, l5, l6⟩ := d5 l l1 l2
        obtain ⟨l'', l7, l8, l9⟩ := g5 l' l4 l5
        exact ⟨⟨j'', j7, j8, j9.trans (j6.trans j3)⟩, ⟨l'', l7, l8, l9.trans (l6.trans l3)⟩⟩)
    refine ⟨w3, k1, k2, k3, k4, fun r w9 hgo => ?_⟩
    apply tX8_lays_12 w0 p q _ (MB_L f1 hM) (by omega) (d2 38 (by decide)) (fun _ => by rw [e38]; exact d1) (fun _ => by rw [e38]; exact g1)
    · intro z; rw [f3 24 (by decide)] at z; omega
    · intro _; exact k5 r w9 hgo
theorem y_laysY (w : eW) (p q : Int) (hM : MB w) (hsp : ∀ k, 140 ≤ k → k < 144 → 1 ≤ w 38 k ∧ w 38 k ≤ 9) (hp : 0 ≤ p ∧ p ≤ 10000) (hq : 1 ≤ q ∧ q ≤ 10000) (h0 : w 33 43 = 0) : ∃ w1, FrL w w1 ∧ Fr [33, 48, 49, 50] w w1 ∧ (∀ i, i ≠ 43 → w1 33 i = w 33 i) ∧ lnI w1 48 49 50 (w1 33 43) q p (w 38 140) (w 38 142) (w 33 25) (w 33 25 + 1) ∧ ∀ (r : Option eV) (w9 : eW), Go mX8_lays 260 [(0, eR 33), (1, (0, p)), (2, (0, q)), (3, (0, (w 38 143) * p)), (4, (0, ((w 33 24) * q) - ((w 38 141) * p))), (5, (0, (w 38 140) * p)), (6, (0, ((w 33 25) * q) - ((w 38 142) * p))), (7, (0, 0))] [] w1 r w9 → Go mX8_lays 111 [(0, eR 33), (1, (0, p)), (2, (0, q)), (3, (0, 0))] [] w r w9 := by
  obtain ⟨⟨c1, c2, c3, c4, c5, c6, c7, c8, c9, c10⟩, c11, c12, c13⟩ := id hM
  have sa := hsp 140 (by decide) (by decide)
  have sb := hsp 142 (by decide) (by decide)
  have key := loop_up (P := fun a => ∀ w0, FrL w w0 → Fr [33, 48, 49, 50] w w0 → (∀ i, i ≠ 43 → w0 33 i = w 33 i) → lnI w0 48 49 50 (w0 33 43) q p (w 38 140) (w 38 142) (w 33 25) (a) → ∃ w1, FrL w w1 ∧ Fr [33, 48, 49, 50] w w1 ∧ (∀ i, i ≠ 43 → w1 33 i = w 33 i) ∧ lnI w1 48 49 50 (w1 33 43) q p (w 38 140) (w 38 142) (w 33 25) (w 33 25 + 1) ∧ ∀ (r : Option eV) (w9 : eW), Go mX8_lays 260 [(0, eR 33), (1, (0, p)), (2, (0, q)), (3, (0, (w 38 143) * p)), (4, (0, ((w 33 24) * q) - ((w 38 141) * p))), (5, (0, (w 38 140) * p)), (6, (0, ((w 33 25) * q) - ((w 38 142) * p))), (7, (0, 0))] [] w1 r w9 → Go mX8_lays 111 [(0, eR 33), (1, (0, p)), (2, (0, q)), (3, (0, a))] [] w0 r w9) 0 (w 33 25 + 1) ?_ ?_ 0 (by omega) (by omega) w FrL.rf Fr.rf (fun _ _ => rfl) ⟨by omega, fun i i1 i2 => by omega, fun i i1 i2 => by omega, fun c i1 i2 => by omega⟩
  · exact key
  · intro w0 f1 f2 f3 hI
    have e38 : w0 38 = w 38 := f1.1 38 (by decide)
    refine ⟨w0, f1, f2, f3, hI, fun r w9 hgo => ?_⟩
    apply tX8_lays_111 w0 p q _ (w1 := w0) (w2 := w0) (n1 := 0) (n2 := 0) (MB_L f1 hM) (by omega) rfl (fun z => absurd (show w0 33 25 < w 33 25 + 1 by rw [f3 25 (by decide)]; omega) z) (fun z => absurd (show w0 33 25 < w 33 25 + 1 by rw [f3 25 (by decide)]; omega) z)
    · intro _
      rw [e38, f3 24 (by decide), f3 25 (by decide)]; exact hgo
    · intro z; rw [f3 25 (by decide)] at z; omega
  · intro a ha1 ha2 ih w0 f1 f2 f3 hI
    have e38 : w0 38 = w 38 := f1.1 38 (by decide)
    obtain ⟨i1, i2, i3, i4⟩ := hI
    have hen : ∀ i, 0 ≤ i → i < w0 33 43 → eI (w0 48 i) := fun i z1 z2 => by
      have := enP_b hp hq sa sb (by omega) (i3 i z1 z2); omega
    have b1 := e_mulb (a := a) (b := q) (A := 14) (B := 10000) (by omega) (by omega) (by decide)
    have b2 := e_mulb (a := w 38 140) (b := p) (A := 9) (B := 10000) (by omega) (by omega) (by decide)
    have b3 := e_mulb (a := w 38 142) (b := p) (A := 9) (B := 10000) (by omega) (by omega) (by decide)
    obtain ⟨w1, n1, d1, d2, d3, d4, d5, d6, d7⟩ := y_X8_comes48 w0 (w0 33 43) (a * q + w 38 140 * p) a (w 38 140) (by omega) (by omega) i2 hen
    have d8 := d7 (enP q p (w 38 140) (w 38 142) (w 33 25)) i3 ⟨rfl, ⟨by omega, by omega⟩, Or.inl rfl⟩
    have hen2 : ∀ i, 0 ≤ i → i < n1 → eI ((eU w1 33 43 n1) 48 i) := fun i z1 z2 => by
      rw [eU_ne (by decide)]
      have := enP_b hp hq sa sb (by omega) (d8 i z1 z2); omega
    obtain ⟨w2, n2, g1, g2, g3, g4, g5, g6, g7⟩ := y_X8_comes48 (eU w1 33 43 n1) n1 (a * q - w 38 142 * p) a (-(w 38 142)) (by omega) (by omega) (by rw [eU_ne (by decide)]; exact d4) hen2
    rw [eU_ne (show 48 ≠ 33 by decide), eU_ne (show 49 ≠ 33 by decide), eU_ne (show 50 ≠ 33 by decide)] at g7
    rw [eU_ne (show 48 ≠ 33 by decide)] at g5
    have g8 := g7 (enP q p (w 38 140) (w 38 142) (w 33 25)) d8 ⟨by rw [Int.neg_mul]; omega, ⟨by omega, by omega⟩, Or.inr rfl⟩
    have F1 : Fr [33, 48, 49, 50] w0 (eU w2 33 43 n2) := (((d2.mono (by decide)).put (i := 43) (v := n1) (o := 33) (by decide)).tr (g2.mono (by decide))).put (by decide)
    have F2 : ∀ i, i ≠ 43 → (eU w2 33 43 n2) 33 i = w0 33 i := fun i hi => by
      rw [eU_get, if_neg hi, g2.at 33 (by decide), eU_get, if_neg hi, d2.at 33 (by decide)]
    obtain ⟨w3, k1, k2, k3, k4, k5⟩ := ih (eU w2 33 43 n2) (f1.tr ⟨F1.mono (by decide), fun i z1 z2 z3 => F2 i (by omega)⟩) (f2.tr F1) (fun i hi => (F2 i hi).trans (f3 i hi)) (by
      unfold lnI
      rw [eU_get, if_pos rfl, eU_ne (show 48 ≠ 33 by decide), eU_ne (show 49 ≠ 33 by decide), eU_ne (show 50 ≠ 33 by decide)]
      refine ⟨by omega, g4, g8, fun c z1 z2 => ?_⟩
      by_cases hc : c = a
      · subst hc
        obtain ⟨j, j1, j2, j3⟩ := d6
        obtain ⟨j', j4, j5, j6⟩ := g5 j j1 j2
        exact ⟨⟨j', j4, j5, j6.trans j3⟩, g6⟩
      · obtain ⟨⟨j, j1, j2, j3⟩, ⟨l, l1, l2, l3⟩⟩ := i4 c z1 (by omega)
        obtain ⟨j', j4, j5, j6⟩ := d5 j j1 j2
        obtain ⟨j'', j7, j8, j9⟩ := g5 j' j4 j5
        obtain ⟨l', l4, l5, l6⟩ := d5 l l1 l2
        obtain ⟨l'', l7, l8, l9⟩ := g5 l' l4 l5
        exact ⟨⟨j'', j7, j8, j9.trans (j6.trans j3)⟩, ⟨l'', l7, l8, l9.trans (l6.trans l3)⟩⟩)
    refine ⟨w3, k1, k2, k3, k4, fun r w9 hgo => ?_⟩
    apply tX8_lays_111 w0 p q _ (MB_L f1 hM) (by omega) (d2 38 (by decide)) (fun _ => by rw [e38]; exact d1) (fun _ => by rw [e38]; exact g1)
    · intro z; rw [f3 25 (by decide)] at z; omega
    · intro _; exact k5 r w9 hgo
