/-! the walls of a grid g (1: inside), as both sides build them: S 0 0 how many; S 1 .. 4: side, x, y, length; S 5: the wall of a cell's side -/
def bxS (x side : Int) : Int := if side = 1 then x + 1 else if side = 3 then x - 1 else x
def byS (y side : Int) : Int := if side = 2 then y + 1 else if side = 0 then y - 1 else y
abbrev wlI (g : Int → Int → Int) (side x y : Int) : Prop := g x y = 1 ∧ ¬ g (bxS x side) (byS y side) = 1
def pX (side lane b : Int) : Int := if side = 0 ∨ side = 2 then b else lane
def pY (side lane b : Int) : Int := if side = 0 ∨ side = 2 then lane else b
abbrev wasP (g : Int → Int → Int) (side lane b : Int) : Prop := 0 < b ∧ wlI g side (pX side lane (b - 1)) (pY side lane (b - 1))
def wBegS (S : eW) (side x y : Int) : eW := eU (eU (eU (eU (eU S 1 (S 0 0) side) 2 (S 0 0) x) 3 (S 0 0) y) 4 (S 0 0) 0) 0 0 (S 0 0 + 1)
def wLenS (S : eW) (side x y : Int) : eW := eU (eU S 4 (S 0 0 - 1) (S 4 (S 0 0 - 1) + 1)) 5 (side * 140 + y * 14 + x) (S 0 0 - 1)
def wCell (g : Int → Int → Int) (side lane b : Int) (S : eW) : eW := if wlI g side (pX side lane b) (pY side lane b) then wLenS (if wasP g side lane b then S else wBegS S side (pX side lane b) (pY side lane b)) side (pX side lane b) (pY side lane b) else S
def wLn (g : Int → Int → Int) (side lane : Int) (S : eW) : Nat → eW
  | 0 => S
  | n + 1 => wCell g side lane n (wLn g side lane S n)
def wSd (g : Int → Int → Int) (side : Int) (steps : Nat) (S : eW) : Nat → eW
  | 0 => S
  | n + 1 => wLn g side n (wSd g side steps S n) steps
def wS0 : eW := fun o _ => if o = 5 then -2 else 0
def wAl (g : Int → Int → Int) (W H : Nat) : Nat → eW
  | 0 => wS0
  | k + 1 => wSd g k (if k = 0 ∨ k = 2 then W else H) (wAl g W H k) (if k = 0 ∨ k = 2 then H else W)
theorem wBegS_n (S : eW) (side x y : Int) : wBegS S side x y 0 0 = S 0 0 + 1 := by unfold wBegS; rw [eU_get, if_pos rfl]
theorem wLenS_n (S : eW) (side x y : Int) : wLenS S side x y 0 0 = S 0 0 := by unfold wLenS; rw [eU_ne (by decide), eU_ne (by decide)]
theorem wLn_next (g : Int → Int → Int) (side lane : Int) (S : eW) {b : Int} (hb : 0 ≤ b) : wLn g side lane S (b + 1).toNat = wCell g side lane b (wLn g side lane S b.toNat) := by
  rw [show (b + 1).toNat = b.toNat + 1 by omega, wLn, Int.toNat_of_nonneg hb]
/-- a lane's walls are apart -/
theorem wLn_bound (g : Int → Int → Int) (side lane : Int) (S : eW) : ∀ n : Nat, S 0 0 ≤ wLn g side lane S n 0 0 ∧ 2 * (wLn g side lane S n 0 0 - S 0 0) ≤ n + (if wasP g side lane n then 1 else 0) ∧ (wasP g side lane n → S 0 0 + 1 ≤ wLn g side lane S n 0 0) := by
  intro n
  induction n with
  | zero => exact ⟨Int.le_refl _, by rw [if_neg (fun q => absurd q.1 (by decide))]; show 2 * (S 0 0 - S 0 0) ≤ _; omega, fun q => absurd q.1 (by decide)⟩
  | succ n ih =>
    obtain ⟨h1, h2, h3⟩ := ih
    rw [wLn]
    have hw : wasP g side lane ((n + 1 : Nat) : Int) ↔ wlI g side (pX side lane n) (pY side lane n) := by
      unfold wasP
      rw [show ((n + 1 : Nat) : Int) - 1 = n by omega]
      exact ⟨fun q => q.2, fun q => ⟨by omega, q⟩⟩
    unfold wCell
    by_cases hl : wlI g side (pX side lane n) (pY side lane n)
    · rw [if_pos hl, wLenS_n, if_pos (hw.mpr hl)]
      by_cases hp : wasP g side lane n
      · rw [if_pos hp]
        rw [if_pos hp] at h2
        exact ⟨h1, by omega, fun _ => h3 hp⟩
      · rw [if_neg hp, wBegS_n]
        rw [if_neg hp] at h2
        exact ⟨by omega, by omega, fun _ => by omega⟩
    · rw [if_neg hl, if_neg (mt hw.mp hl)]
      refine ⟨h1, ?_, fun q => absurd (hw.mp q) hl⟩
      split at h2 <;> omega
/-- the class's cells hold the walls S -/
def RC (w S : eW) : Prop := w 13 4 = 1 ∧ w 13 3 = S 0 0 ∧ (∀ i, 0 ≤ i → i < S 0 0 → w 14 (i * 4) = S 1 i ∧ w 14 (i * 4 + 1) = S 2 i ∧ w 14 (i * 4 + 2) = S 3 i ∧ w 14 (i * 4 + 3) = S 4 i) ∧ ∀ p, 0 ≤ p → p < 560 → w 15 p = S 5 p
theorem RC_begin {w S : eW} (h : RC w S) (hc : 0 ≤ S 0 0) (side x y : Int) : RC (wX6_begin w side x y) (wBegS S side x y) := by
  obtain ⟨h0, h1, h2, h3⟩ := h
  refine ⟨h0, ?_, fun i g1 g2 => ?_, fun p g1 g2 => ?_⟩
  · rw [wBegS_n]
    show w 13 3 + 1 = _
    rw [h1]
  · rw [wBegS_n] at g2
    unfold wX6_begin wBegS
    simp only [eU_ne (show (14 : Nat) ≠ 13 by decide), eU_ne (show (1 : Nat) ≠ 0 by decide), eU_ne (show (2 : Nat) ≠ 0 by decide), eU_ne (show (3 : Nat) ≠ 0 by decide), eU_ne (show (4 : Nat) ≠ 0 by decide), eU_ne (show (1 : Nat) ≠ 4 by decide), eU_ne (show (2 : Nat) ≠ 4 by decide), eU_ne (show (3 : Nat) ≠ 4 by decide), eU_ne (show (1 : Nat) ≠ 3 by decide), eU_ne (show (2 : Nat) ≠ 3 by decide), eU_ne (show (1 : Nat) ≠ 2 by decide), eU_ne (show (4 : Nat) ≠ 3 by decide), eU_ne (show (4 : Nat) ≠ 2 by decide), eU_ne (show (4 : Nat) ≠ 1 by decide), eU_ne (show (3 : Nat) ≠ 2 by decide), eU_ne (show (3 : Nat) ≠ 1 by decide), eU_ne (show (2 : Nat) ≠ 1 by decide), eU_get, h1]
    by_cases hi : i = S 0 0
    · subst hi
      refine ⟨?_, ?_, ?_, ?_⟩ <;> (repeat' (first | rw [if_pos (by omega)] | rw [if_neg (by omega)]))
    · have := h2 i g1 (by omega)
      refine ⟨?_, ?_, ?_, ?_⟩ <;> (repeat' (first | rw [if_neg (by omega)])) <;> first | exact this.1 | exact this.2.1 | exact this.2.2.1 | exact this.2.2.2
  · show w 15 p = S 5 p
    exact h3 p g1 g2
theorem RC_len {w S : eW} (h : RC w S) (hc : 1 ≤ S 0 0) (side x y : Int) : RC (wX6_lengthen w side x y) (wLenS S side x y) := by
  obtain ⟨h0, h1, h2, h3⟩ := h
  refine ⟨h0, ?_, fun i g1 g2 => ?_, fun p g1 g2 => ?_⟩
  · rw [wLenS_n]
    exact h1
  · rw [wLenS_n] at g2
    unfold wX6_lengthen wLenS
    simp only [eU_ne (show (14 : Nat) ≠ 15 by decide), eU_ne (show (1 : Nat) ≠ 5 by decide), eU_ne (show (2 : Nat) ≠ 5 by decide), eU_ne (show (3 : Nat) ≠ 5 by decide), eU_ne (show (4 : Nat) ≠ 5 by decide), eU_ne (show (1 : Nat) ≠ 4 by decide), eU_ne (show (2 : Nat) ≠ 4 by decide), eU_ne (show (3 : Nat) ≠ 4 by decide), eU_get, h1]
    have hi := h2 i g1 g2
    have hl := h2 (S 0 0 - 1) (by omega) (by omega)
    refine ⟨?_, ?_, ?_, ?_⟩
    · rw [if_neg (by omega)]; exact hi.1
    · rw [if_neg (by omega)]; exact hi.2.1
    · rw [if_neg (by omega)]; exact hi.2.2.1
    · by_cases he : i = S 0 0 - 1
      · subst he
        rw [if_pos (by omega), if_pos rfl, show S 0 0 * 4 - 1 = (S 0 0 - 1) * 4 + 3 by omega, hl.2.2.2]
      · rw [if_neg (by omega), if_neg he]; exact hi.2.2.2
  · unfold wX6_lengthen wLenS
    rw [eU_get, eU_get, eU_ne (show (15 : Nat) ≠ 14 by decide), eU_ne (show (5 : Nat) ≠ 4 by decide), h1, h3 p g1 g2]
/-- the class's house as a grid -/
def gC (w : eW) : Int → Int → Int := fun x y => if insC w x y then 1 else 0
theorem gC_1 {w : eW} {x y : Int} : gC w x y = 1 ↔ insC w x y := by
  unfold gC
  by_cases h : insC w x y
  · rw [if_pos h]; exact ⟨fun _ => h, fun _ => rfl⟩
  · rw [if_neg h]; exact ⟨fun q => absurd q (by decide), fun q => absurd q h⟩
theorem insC_fr {S : List Nat} {w w0 : eW} (h : Fr S w w0) (hS : 2 ∉ S ∧ 3 ∉ S) (x y : Int) : insC w0 x y = insC w x y := by
  unfold insC
  rw [h 2 hS.1, h 3 hS.2]
theorem y_lane0 (w : eW) (hB : HB w) (lane : Int) (hl : 0 ≤ lane ∧ lane < w 2 1) (S : eW) (hR : RC w S) (hc : 0 ≤ S 0 0 ∧ 2 * S 0 0 + (w 2 0) ≤ 560) (hev : ∀ b : Int, 0 ≤ b → b ≤ w 2 0 → wLn (gC w) 0 lane S b.toNat 0 0 ≤ 280) : ∃ w1, Cal mX6_buildLane [eR 13, (0, 0), (0, lane), (0, 1)] w none w1 ∧ Fr [13, 14, 15] w w1 ∧ RC w1 (wLn (gC w) 0 lane S (w 2 0).toNat) := by
  obtain ⟨⟨b1, b2, b3, b4, b5, b6⟩, b7, b8, b9⟩ := id hB
  have key := loop_up (P := fun k => ∀ w0, Fr [13, 14, 15] w w0 → RC w0 (wLn (gC w) 0 lane S k.toNat) → ∃ w1, Go mX6_buildLane 29 [(0, eR 13), (1, (0, 0)), (2, (0, lane)), (3, (0, 1)), (4, (0, w 2 0)), (5, (0, if wasP (gC w) 0 lane k then 1 else 0)), (6, (0, k))] [] w0 none w1 ∧ Fr [13, 14, 15] w w1 ∧ RC w1 (wLn (gC w) 0 lane S (w 2 0).toNat)) 0 (w 2 0) ?_ ?_ 0 (by omega) (by omega) w Fr.rf hR
  · obtain ⟨w1, h1, h2, h3⟩ := key
    rw [if_neg (fun q => absurd q.1 (by decide))] at h1
    exact ⟨w1, Cal.of (by decide +kernel) (Nat.le_of_ble_eq_true rfl) (tX6_buildLane0_0 w lane hB h1), h2, h3⟩
  · intro w0 hF hR0
    have hB0 : HB w0 := HB_fr hF hB (by decide)
    have e20 : w0 2 0 = w 2 0 := hF.at 2 (by decide) 0
    have e21 : w0 2 1 = w 2 1 := hF.at 2 (by decide) 1
    obtain ⟨n1, n2, n3⟩ := wLn_bound (gC w) 0 lane S (w 2 0).toNat
    rw [Int.toNat_of_nonneg (by omega)] at n2 n3
    have hev1 := hev (w 2 0) (by omega) (by omega)
    have hcnt := hR0.2.1
    refine ⟨w0, ?_, hF, hR0⟩
    apply tX6_buildLane0_29 w0 _ _ _ _ hB0 (by omega) (by omega) (by omega) (by omega) (by omega)
    · by_cases hp : wasP (gC w) 0 lane (w 2 0)
      · rw [if_pos hp]; exact Or.inr ⟨rfl, by have := n3 hp; omega⟩
      · rw [if_neg hp]; exact Or.inl rfl
    all_goals (intros; first | omega | exact ⟨rfl, rfl⟩)
  · intro k hk1 hk2 ih w0 hF hR0
    have hB0 : HB w0 := HB_fr hF hB (by decide)
    have e20 : w0 2 0 = w 2 0 := hF.at 2 (by decide) 0
    have e21 : w0 2 1 = w 2 1 := hF.at 2 (by decide) 1
    obtain ⟨n1, n2, n3⟩ := wLn_bound (gC w) 0 lane S k.toNat
    rw [Int.toNat_of_nonneg hk1] at n2 n3
    have hev1 := hev k hk1 (by omega)
    have hcnt := hR0.2.1
    have hX : pX 0 lane k = k := by unfold pX; simp
    have hY : pY 0 lane k = lane := by unfold pY; simp
    have hbx : bxS k 0 = k := by unfold bxS; simp
    have hby : byS lane 0 = (lane - 1) := by unfold byS; simp
    have hwl : wlI (gC w) 0 (pX 0 lane k) (pY 0 lane k) ↔ (insC w0 k lane ∧ ¬ insC w0 k (lane - 1)) := by
      unfold wlI
      rw [hX, hY, hbx, hby, gC_1, gC_1, insC_fr hF (by decide), insC_fr hF (by decide)]
    have hnext : wasP (gC w) 0 lane (k + 1) ↔ wlI (gC w) 0 (pX 0 lane k) (pY 0 lane k) := by
      unfold wasP
      rw [show k + 1 - 1 = k by omega]
      exact ⟨fun q => q.2, fun q => ⟨by omega, q⟩⟩
    have hin : (if wasP (gC w) 0 lane k then (1 : Int) else 0) = 0 ∨ ((if wasP (gC w) 0 lane k then (1 : Int) else 0) = 1 ∧ 1 ≤ w0 13 3) := by
      by_cases hp : wasP (gC w) 0 lane k
      · rw [if_pos hp]; exact Or.inr ⟨rfl, by have := n3 hp; omega⟩
      · rw [if_neg hp]; exact Or.inl rfl
    have hroom : (if wasP (gC w) 0 lane k then (1 : Int) else 0) = 0 → w0 13 3 < 280 := by
      intro h0
      rw [h0] at n2
      omega
    rw [wLn_next _ _ _ _ hk1] at ih
    by_cases hl1 : wlI (gC w) 0 (pX 0 lane k) (pY 0 lane k)
    · obtain ⟨hi1, hi2⟩ := hwl.mp hl1
      by_cases hp : wasP (gC w) 0 lane k
      · obtain ⟨w1, i1, i2, i3⟩ := ih (wX6_lengthen w0 0 k lane) (fun q hq => by
          simp only [List.mem_cons, List.not_mem_nil, or_false, not_or] at hq
          unfold wX6_lengthen
          rw [eU_ne hq.2.2, eU_ne hq.2.1]
          exact hF q (by simp [hq.1, hq.2.1, hq.2.2])) (by
          unfold wCell
          rw [if_pos hl1, if_pos hp, hX, hY]
          exact RC_len hR0 (by have := n3 hp; omega) _ _ _)
        rw [if_pos (hnext.mpr hl1)] at i1
        refine ⟨w1, ?_, i2, i3⟩
        rw [if_pos hp] at hin hroom ⊢
        apply tX6_buildLane0_29 w0 _ _ _ _ hB0 (by omega) (by omega) (by omega) (by omega) (by omega) hin
        all_goals (intros; first | with_reducible exact i1 | (exfalso; omega) | contradiction)
      · obtain ⟨w1, i1, i2, i3⟩ := ih (wX6_lengthen (wX6_begin w0 0 k lane) 0 k lane) (fun q hq => by
          simp only [List.mem_cons, List.not_mem_nil, or_false, not_or] at hq
          unfold wX6_lengthen wX6_begin
          rw [eU_ne hq.2.2, eU_ne hq.2.1, eU_ne hq.1, eU_ne hq.2.1, eU_ne hq.2.1, eU_ne hq.2.1, eU_ne hq.2.1]
          exact hF q (by simp [hq.1, hq.2.1, hq.2.2])) (by
          unfold wCell
          rw [if_pos hl1, if_neg hp, hX, hY]
          exact RC_len (RC_begin hR0 (by omega) _ _ _) (by rw [wBegS_n]; omega) _ _ _)
        rw [if_pos (hnext.mpr hl1)] at i1
        refine ⟨w1, ?_, i2, i3⟩
        rw [if_neg hp] at hin hroom ⊢
        have hr2 := hroom rfl
        apply tX6_buildLane0_29 w0 _ _ _ _ hB0 (by omega) (by omega) (by omega) (by omega) (by omega) hin
        all_goals (intros; first | with_reducible exact i1 | (exfalso; omega) | contradiction)
    · obtain ⟨w1, i1, i2, i3⟩ := ih w0 hF (by unfold wCell; rw [if_neg hl1]; exact hR0)
      rw [if_neg (mt hnext.mp hl1)] at i1
      refine ⟨w1, ?_, i2, i3⟩
      have hno := mt hwl.mpr hl1
      apply tX6_buildLane0_29 w0 _ _ _ _ hB0 (by omega) (fun h _ => hroom h) (by omega) (by omega) (by omega) hin
      all_goals (intros; first | with_reducible exact i1 | (exfalso; omega) | (exfalso; exact hno ⟨by assumption, by assumption⟩))
theorem y_lane1 (w : eW) (hB : HB w) (lane : Int) (hl : 0 ≤ lane ∧ lane < w 2 0) (S : eW) (hR : RC w S) (hc : 0 ≤ S 0 0 ∧ 2 * S 0 0 + (w 2 1) ≤ 560) (hev : ∀ b : Int, 0 ≤ b → b ≤ w 2 1 → wLn (gC w) 1 lane S b.toNat 0 0 ≤ 280) : ∃ w1, Cal mX6_buildLane [eR 13, (0, 1), (0, lane), (0, 0)] w none w1 ∧ Fr [13, 14, 15] w w1 ∧ RC w1 (wLn (gC w) 1 lane S (w 2 1).toNat) := by
  obtain ⟨⟨b1, b2, b3, b4, b5, b6⟩, b7, b8, b9⟩ := id hB
  have key := loop_up (P := fun k => ∀ w0, Fr [13, 14, 15] w w0 → RC w0 (wLn (gC w) 1 lane S k.toNat) → ∃ w1, Go mX6_buildLane 29 [(0, eR 13), (1, (0, 1)), (2, (0, lane)), (3, (0, 0)), (4, (0, w 2 1)), (5, (0, if wasP (gC w) 1 lane k then 1 else 0)), (6, (0, k))] [] w0 none w1 ∧ Fr [13, 14, 15] w w1 ∧ RC w1 (wLn (gC w) 1 lane S (w 2 1).toNat)) 0 (w 2 1) ?_ ?_ 0 (by omega) (by omega) w Fr.rf hR
  · obtain ⟨w1, h1, h2, h3⟩ := key
    rw [if_neg (fun q => absurd q.1 (by decide))] at h1
    exact ⟨w1, Cal.of (by decide +kernel) (Nat.le_of_ble_eq_true rfl) (tX6_buildLane1_0 w lane hB h1), h2, h3⟩
  · intro w0 hF hR0
    have hB0 : HB w0 := HB_fr hF hB (by decide)
    have e20 : w0 2 0 = w 2 0 := hF.at 2 (by decide) 0
    have e21 : w0 2 1 = w 2 1 := hF.at 2 (by decide) 1
    obtain ⟨n1, n2, n3⟩ := wLn_bound (gC w) 1 lane S (w 2 1).toNat
    rw [Int.toNat_of_nonneg (by omega)] at n2 n3
    have hev1 := hev (w 2 1) (by omega) (by omega)
    have hcnt := hR0.2.1
    refine ⟨w0, ?_, hF, hR0⟩
    apply tX6_buildLane1_29 w0 _ _ _ _ hB0 (by omega) (by omega) (by omega) (by omega) (by omega)
    · by_cases hp : wasP (gC w) 1 lane (w 2 1)
      · rw [if_pos hp]; exact Or.inr ⟨rfl, by have := n3 hp; omega⟩
      · rw [if_neg hp]; exact Or.inl rfl
    all_goals (intros; first | omega | exact ⟨rfl, rfl⟩)
  · intro k hk1 hk2 ih w0 hF hR0
    have hB0 : HB w0 := HB_fr hF hB (by decide)
    have e20 : w0 2 0 = w 2 0 := hF.at 2 (by decide) 0
    have e21 : w0 2 1 = w 2 1 := hF.at 2 (by decide) 1
    obtain ⟨n1, n2, n3⟩ := wLn_bound (gC w) 1 lane S k.toNat
    rw [Int.toNat_of_nonneg hk1] at n2 n3
    have hev1 := hev k hk1 (by omega)
    have hcnt := hR0.2.1
    have hX : pX 1 lane k = lane := by unfold pX; simp
    have hY : pY 1 lane k = k := by unfold pY; simp
    have hbx : bxS lane 1 = (lane + 1) := by unfold bxS; simp
    have hby : byS k 1 = k := by unfold byS; simp
    have hwl : wlI (gC w) 1 (pX 1 lane k) (pY 1 lane k) ↔ (insC w0 lane k ∧ ¬ insC w0 (lane + 1) k) := by
      unfold wlI
      rw [hX, hY, hbx, hby, gC_1, gC_1, insC_fr hF (by decide), insC_fr hF (by decide)]
    have hnext : wasP (gC w) 1 lane (k + 1) ↔ wlI (gC w) 1 (pX 1 lane k) (pY 1 lane k) := by
      unfold wasP
      rw [show k + 1 - 1 = k by omega]
      exact ⟨fun q => q.2, fun q => ⟨by omega, q⟩⟩
    have hin : (if wasP (gC w) 1 lane k then (1 : Int) else 0) = 0 ∨ ((if wasP (gC w) 1 lane k then (1 : Int) else 0) = 1 ∧ 1 ≤ w0 13 3) := by
      by_cases hp : wasP (gC w) 1 lane k
      · rw [if_pos hp]; exact Or.inr ⟨rfl, by have := n3 hp; omega⟩
      · rw [if_neg hp]; exact Or.inl rfl
    have hroom : (if wasP (gC w) 1 lane k then (1 : Int) else 0) = 0 → w0 13 3 < 280 := by
      intro h0
      rw [h0] at n2
      omega
    rw [wLn_next _ _ _ _ hk1] at ih
    by_cases hl1 : wlI (gC w) 1 (pX 1 lane k) (pY 1 lane k)
    · obtain ⟨hi1, hi2⟩ := hwl.mp hl1
      by_cases hp : wasP (gC w) 1 lane k
      · obtain ⟨w1, i1, i2, i3⟩ := ih (wX6_lengthen w0 1 lane k) (fun q hq => by
          simp only [List.mem_cons, List.not_mem_nil, or_false, not_or] at hq
          unfold wX6_lengthen
          rw [eU_ne hq.2.2, eU_ne hq.2.1]
          exact hF q (by simp [hq.1, hq.2.1, hq.2.2])) (by
          unfold wCell
          rw [if_pos hl1, if_pos hp, hX, hY]
          exact RC_len hR0 (by have := n3 hp; omega) _ _ _)
        rw [if_pos (hnext.mpr hl1)] at i1
        refine ⟨w1, ?_, i2, i3⟩
        rw [if_pos hp] at hin hroom ⊢
        apply tX6_buildLane1_29 w0 _ _ _ _ hB0 (by omega) (by omega) (by omega) (by omega) (by omega) hin
        all_goals (intros; first | with_reducible exact i1 | (exfalso; omega) | contradiction)
      · obtain ⟨w1, i1, i2, i3⟩ := ih (wX6_lengthen (wX6_begin w0 1 lane k) 1 lane k) (fun q hq => by
          simp only [List.mem_cons, List.not_mem_nil, or_false, not_or] at hq
          unfold wX6_lengthen wX6_begin
          rw [eU_ne hq.2.2, eU_ne hq.2.1, eU_ne hq.1, eU_ne hq.2.1, eU_ne hq.2.1, eU_ne hq.2.1, eU_ne hq.2.1]
          exact hF q (by simp [hq.1, hq.2.1, hq.2.2])) (by
          unfold wCell
          rw [if_pos hl1, if_neg hp, hX, hY]
          exact RC_len (RC_begin hR0 (by omega) _ _ _) (by rw [wBegS_n]; omega) _ _ _)
        rw [if_pos (hnext.mpr hl1)] at i1
        refine ⟨w1, ?_, i2, i3⟩
        rw [if_neg hp] at hin hroom ⊢
        have hr2 := hroom rfl
        apply tX6_buildLane1_29 w0 _ _ _ _ hB0 (by omega) (by omega) (by omega) (by omega) (by omega) hin
        all_goals (intros; first | with_reducible exact i1 | (exfalso; omega) | contradiction)
    · obtain ⟨w1, i1, i2, i3⟩ := ih w0 hF (by unfold wCell; rw [if_neg hl1]; exact hR0)
      rw [if_neg (mt hnext.mp hl1)] at i1
      refine ⟨w1, ?_, i2, i3⟩
      have hno := mt hwl.mpr hl1
      apply tX6_buildLane1_29 w0 _ _ _ _ hB0 (by omega) (fun h _ => hroom h) (by omega) (by omega) (by omega) hin
      all_goals (intros; first | with_reducible exact i1 | (exfalso; omega) | (exfalso; exact hno ⟨by assumption, by assumption⟩))
theorem y_lane2 (w : eW) (hB : HB w) (lane : Int) (hl : 0 ≤ lane ∧ lane < w 2 1) (S : eW) (hR : RC w S) (hc : 0 ≤ S 0 0 ∧ 2 * S 0 0 + (w 2 0) ≤ 560) (hev : ∀ b : Int, 0 ≤ b → b ≤ w 2 0 → wLn (gC w) 2 lane S b.toNat 0 0 ≤ 280) : ∃ w1, Cal mX6_buildLane [eR 13, (0, 2), (0, lane), (0, 1)] w none w1 ∧ Fr [13, 14, 15] w w1 ∧ RC w1 (wLn (gC w) 2 lane S (w 2 0).toNat) := by
  obtain ⟨⟨b1, b2, b3, b4, b5, b6⟩, b7, b8, b9⟩ := id hB
  have key := loop_up (P := fun k => ∀ w0, Fr [13, 14, 15] w w0 → RC w0 (wLn (gC w) 2 lane S k.toNat) → ∃ w1, Go mX6_buildLane 29 [(0, eR 13), (1, (0, 2)), (2, (0, lane)), (3, (0, 1)), (4, (0, w 2 0)), (5, (0, if wasP (gC w) 2 lane k then 1 else 0)), (6, (0, k))] [] w0 none w1 ∧ Fr [13, 14, 15] w w1 ∧ RC w1 (wLn (gC w) 2 lane S (w 2 0).toNat)) 0 (w 2 0) ?_ ?_ 0 (by omega) (by omega) w Fr.rf hR
  · obtain ⟨w1, h1, h2, h3⟩ := key
    rw [if_neg (fun q => absurd q.1 (by decide))] at h1
    exact ⟨w1, Cal.of (by decide +kernel) (Nat.le_of_ble_eq_true rfl) (tX6_buildLane2_0 w lane hB h1), h2, h3⟩
  · intro w0 hF hR0
    have hB0 : HB w0 := HB_fr hF hB (by decide)
    have e20 : w0 2 0 = w 2 0 := hF.at 2 (by decide) 0
    have e21 : w0 2 1 = w 2 1 := hF.at 2 (by decide) 1
    obtain ⟨n1, n2, n3⟩ := wLn_bound (gC w) 2 lane S (w 2 0).toNat
    rw [Int.toNat_of_nonneg (by omega)] at n2 n3
    have hev1 := hev (w 2 0) (by omega) (by omega)
    have hcnt := hR0.2.1
    refine ⟨w0, ?_, hF, hR0⟩
    apply tX6_buildLane2_29 w0 _ _ _ _ hB0 (by omega) (by omega) (by omega) (by omega) (by omega)
    · by_cases hp : wasP (gC w) 2 lane (w 2 0)
      · rw [if_pos hp]; exact Or.inr ⟨rfl, by have := n3 hp; omega⟩
      · rw [if_neg hp]; exact Or.inl rfl
    all_goals (intros; first | omega | exact ⟨rfl, rfl⟩)
  · intro k hk1 hk2 ih w0 hF hR0
    have hB0 : HB w0 := HB_fr hF hB (by decide)
    have e20 : w0 2 0 = w 2 0 := hF.at 2 (by decide) 0
    have e21 : w0 2 1 = w 2 1 := hF.at 2 (by decide) 1
    obtain ⟨n1, n2, n3⟩ := wLn_bound (gC w) 2 lane S k.toNat
    rw [Int.toNat_of_nonneg hk1] at n2 n3
    have hev1 := hev k hk1 (by omega)
    have hcnt := hR0.2.1
    have hX : pX 2 lane k = k := by unfold pX; simp
    have hY : pY 2 lane k = lane := by unfold pY; simp
    have hbx : bxS k 2 = k := by unfold bxS; simp
    have hby : byS lane 2 = (lane + 1) := by unfold byS; simp
    have hwl : wlI (gC w) 2 (pX 2 lane k) (pY 2 lane k) ↔ (insC w0 k lane ∧ ¬ insC w0 k (lane + 1)) := by
      unfold wlI
      rw [hX, hY, hbx, hby, gC_1, gC_1, insC_fr hF (by decide), insC_fr hF (by decide)]
    have hnext : wasP (gC w) 2 lane (k + 1) ↔ wlI (gC w) 2 (pX 2 lane k) (pY 2 lane k) := by
      unfold wasP
      rw [show k + 1 - 1 = k by omega]
      exact ⟨fun q => q.2, fun q => ⟨by omega, q⟩⟩
    have hin : (if wasP (gC w) 2 lane k then (1 : Int) else 0) = 0 ∨ ((if wasP (gC w) 2 lane k then (1 : Int) else 0) = 1 ∧ 1 ≤ w0 13 3) := by
      by_cases hp : wasP (gC w) 2 lane k
      · rw [if_pos hp]; exact Or.inr ⟨rfl, by have := n3 hp; omega⟩
      · rw [if_neg hp]; exact Or.inl rfl
    have hroom : (if wasP (gC w) 2 lane k then (1 : Int) else 0) = 0 → w0 13 3 < 280 := by
      intro h0
      rw [h0] at n2
      omega
    rw [wLn_next _ _ _ _ hk1] at ih
    by_cases hl1 : wlI (gC w) 2 (pX 2 lane k) (pY 2 lane k)
    · obtain ⟨hi1, hi2⟩ := hwl.mp hl1
      by_cases hp : wasP (gC w) 2 lane k
      · obtain ⟨w1, i1, i2, i3⟩ := ih (wX6_lengthen w0 2 k lane) (fun q hq => by
          simp only [List.mem_cons, List.not_mem_nil, or_false, not_or] at hq
          unfold wX6_lengthen
          rw [eU_ne hq.2.2, eU_ne hq.2.1]
          exact hF q (by simp [hq.1, hq.2.1, hq.2.2])) (by
          unfold wCell
          rw [if_pos hl1, if_pos hp, hX, hY]
          exact RC_len hR0 (by have := n3 hp; omega) _ _ _)
        rw [if_pos (hnext.mpr hl1)] at i1
        refine ⟨w1, ?_, i2, i3⟩
        rw [if_pos hp] at hin hroom ⊢
        apply tX6_buildLane2_29 w0 _ _ _ _ hB0 (by omega) (by omega) (by omega) (by omega) (by omega) hin
        all_goals (intros; first | with_reducible exact i1 | (exfalso; omega) | contradiction)
      · obtain ⟨w1, i1, i2, i3⟩ := ih (wX6_lengthen (wX6_begin w0 2 k lane) 2 k lane) (fun q hq => by
          simp only [List.mem_cons, List.not_mem_nil, or_false, not_or] at hq
          unfold wX6_lengthen wX6_begin
          rw [eU_ne hq.2.2, eU_ne hq.2.1, eU_ne hq.1, eU_ne hq.2.1, eU_ne hq.2.1, eU_ne hq.2.1, eU_ne hq.2.1]
          exact hF q (by simp [hq.1, hq.2.1, hq.2.2])) (by
          unfold wCell
          rw [if_pos hl1, if_neg hp, hX, hY]
          exact RC_len (RC_begin hR0 (by omega) _ _ _) (by rw [wBegS_n]; omega) _ _ _)
        rw [if_pos (hnext.mpr hl1)] at i1
        refine ⟨w1, ?_, i2, i3⟩
        rw [if_neg hp] at hin hroom ⊢
        have hr2 := hroom rfl
        apply tX6_buildLane2_29 w0 _ _ _ _ hB0 (by omega) (by omega) (by omega) (by omega) (by omega) hin
        all_goals (intros; first | with_reducible exact i1 | (exfalso; omega) | contradiction)
    · obtain ⟨w1, i1, i2, i3⟩ := ih w0 hF (by unfold wCell; rw [if_neg hl1]; exact hR0)
      rw [if_neg (mt hnext.mp hl1)] at i1
      refine ⟨w1, ?_, i2, i3⟩
      have hno := mt hwl.mpr hl1
      apply tX6_buildLane2_29 w0 _ _ _ _ hB0 (by omega) (fun h _ => hroom h) (by omega) (by omega) (by omega) hin
      all_goals (intros; first | with_reducible exact i1 | (exfalso; omega) | (exfalso; exact hno ⟨by assumption, by assumption⟩))
theorem y_lane3 (w : eW) (hB : HB w) (lane : Int) (hl : 0 ≤ lane ∧ lane < w 2 0) (S : eW) (hR : RC w S) (hc : 0 ≤ S 0 0 ∧ 2 * S 0 0 + (w 2 1) ≤ 560) (hev : ∀ b : Int, 0 ≤ b → b ≤ w 2 1 → wLn (gC w) 3 lane S b.toNat 0 0 ≤ 280) : ∃ w1, Cal mX6_buildLane [eR 13, (0, 3), (0, lane), (0, 0)] w none w1 ∧ Fr [13, 14, 15] w w1 ∧ RC w1 (wLn (gC w) 3 lane S (w 2 1).toNat) := by
  obtain ⟨⟨b1, b2, b3, b4, b5, b6⟩, b7, b8, b9⟩ := id hB
  have key := loop_up (P := fun k => ∀ w0, Fr [13, 14, 15] w w0 → RC w0 (wLn (gC w) 3 lane S k.toNat) → ∃ w1, Go mX6_buildLane 29 [(0, eR 13), (1, (0, 3)), (2, (0, lane)), (3, (0, 0)), (4, (0, w 2 1)), (5, (0, if wasP (gC w) 3 lane k then 1 else 0)), (6, (0, k))] [] w0 none w1 ∧ Fr [13, 14, 15] w w1 ∧ RC w1 (wLn (gC w) 3 lane S (w 2 1).toNat)) 0 (w 2 1) ?_ ?_ 0 (by omega) (by omega) w Fr.rf hR
  · obtain ⟨w1, h1, h2, h3⟩ := key
    rw [if_neg (fun q => absurd q.1 (by decide))] at h1
    exact ⟨w1, Cal.of (by decide +kernel) (Nat.le_of_ble_eq_true rfl) (tX6_buildLane3_0 w lane hB h1), h2, h3⟩
  · intro w0 hF hR0
    have hB0 : HB w0 := HB_fr hF hB (by decide)
    have e20 : w0 2 0 = w 2 0 := hF.at 2 (by decide) 0
    have e21 : w0 2 1 = w 2 1 := hF.at 2 (by decide) 1
    obtain ⟨n1, n2, n3⟩ := wLn_bound (gC w) 3 lane S (w 2 1).toNat
    rw [Int.toNat_of_nonneg (by omega)] at n2 n3
    have hev1 := hev (w 2 1) (by omega) (by omega)
    have hcnt := hR0.2.1
    refine ⟨w0, ?_, hF, hR0⟩
    apply tX6_buildLane3_29 w0 _ _ _ _ hB0 (by omega) (by omega) (by omega) (by omega) (by omega)
    · by_cases hp : wasP (gC w) 3 lane (w 2 1)
      · rw [if_pos hp]; exact Or.inr ⟨rfl, by have := n3 hp; omega⟩
      · rw [if_neg hp]; exact Or.inl rfl
    all_goals (intros; first | omega | exact ⟨rfl, rfl⟩)
  · intro k hk1 hk2 ih w0 hF hR0
    have hB0 : HB w0 := HB_fr hF hB (by decide)
    have e20 : w0 2 0 = w 2 0 := hF.at 2 (by decide) 0
    have e21 : w0 2 1 = w 2 1 := hF.at 2 (by decide) 1
    obtain ⟨n1, n2, n3⟩ := wLn_bound (gC w) 3 lane S k.toNat
    rw [Int.toNat_of_nonneg hk1] at n2 n3
    have hev1 := hev k hk1 (by omega)
    have hcnt := hR0.2.1
    have hX : pX 3 lane k = lane := by unfold pX; simp
    have hY : pY 3 lane k = k := by unfold pY; simp
    have hbx : bxS lane 3 = (lane - 1) := by unfold bxS; simp
    have hby : byS k 3 = k := by unfold byS; simp
    have hwl : wlI (gC w) 3 (pX 3 lane k) (pY 3 lane k) ↔ (insC w0 lane k ∧ ¬ insC w0 (lane - 1) k) := by
      unfold wlI
      rw [hX, hY, hbx, hby, gC_1, gC_1, insC_fr hF (by decide), insC_fr hF (by decide)]
    have hnext : wasP (gC w) 3 lane (k + 1) ↔ wlI (gC w) 3 (pX 3 lane k) (pY 3 lane k) := by
      unfold wasP
      rw [show k + 1 - 1 = k by omega]
      exact ⟨fun q => q.2, fun q => ⟨by omega, q⟩⟩
    have hin : (if wasP (gC w) 3 lane k then (1 : Int) else 0) = 0 ∨ ((if wasP (gC w) 3 lane k then (1 : Int) else 0) = 1 ∧ 1 ≤ w0 13 3) := by
      by_cases hp : wasP (gC w) 3 lane k
      · rw [if_pos hp]; exact Or.inr ⟨rfl, by have := n3 hp; omega⟩
      · rw [if_neg hp]; exact Or.inl rfl
    have hroom : (if wasP (gC w) 3 lane k then (1 : Int) else 0) = 0 → w0 13 3 < 280 := by
      intro h0
      rw [h0] at n2
      omega
    rw [wLn_next _ _ _ _ hk1] at ih
    by_cases hl1 : wlI (gC w) 3 (pX 3 lane k) (pY 3 lane k)
    · obtain ⟨hi1, hi2⟩ := hwl.mp hl1
      by_cases hp : wasP (gC w) 3 lane k
      · obtain ⟨w1, i1, i2, i3⟩ := ih (wX6_lengthen w0 3 lane k) (fun q hq => by
          simp only [List.mem_cons, List.not_mem_nil, or_false, not_or] at hq
          unfold wX6_lengthen
          rw [eU_ne hq.2.2, eU_ne hq.2.1]
          exact hF q (by simp [hq.1, hq.2.1, hq.2.2])) (by
          unfold wCell
          rw [if_pos hl1, if_pos hp, hX, hY]
          exact RC_len hR0 (by have := n3 hp; omega) _ _ _)
        rw [if_pos (hnext.mpr hl1)] at i1
        refine ⟨w1, ?_, i2, i3⟩
        rw [if_pos hp] at hin hroom ⊢
        apply tX6_buildLane3_29 w0 _ _ _ _ hB0 (by omega) (by omega) (by omega) (by omega) (by omega) hin
        all_goals (intros; first | with_reducible exact i1 | (exfalso; omega) | contradiction)
      · obtain ⟨w1, i1, i2, i3⟩ := ih (wX6_lengthen (wX6_begin w0 3 lane k) 3 lane k) (fun q hq => by
          simp only [List.mem_cons, List.not_mem_nil, or_false, not_or] at hq
          unfold wX6_lengthen wX6_begin
          rw [eU_ne hq.2.2, eU_ne hq.2.1, eU_ne hq.1, eU_ne hq.2.1, eU_ne hq.2.1, eU_ne hq.2.1, eU_ne hq.2.1]
          exact hF q (by simp [hq.1, hq.2.1, hq.2.2])) (by
          unfold wCell
          rw [if_pos hl1, if_neg hp, hX, hY]
          exact RC_len (RC_begin hR0 (by omega) _ _ _) (by rw [wBegS_n]; omega) _ _ _)
        rw [if_pos (hnext.mpr hl1)] at i1
        refine ⟨w1, ?_, i2, i3⟩
        rw [if_neg hp] at hin hroom ⊢
        have hr2 := hroom rfl
        apply tX6_buildLane3_29 w0 _ _ _ _ hB0 (by omega) (by omega) (by omega) (by omega) (by omega) hin
        all_goals (intros; first | with_reducible exact i1 | (exfalso; omega) | contradiction)
    · obtain ⟨w1, i1, i2, i3⟩ := ih w0 hF (by unfold wCell; rw [if_neg hl1]; exact hR0)
      rw [if_neg (mt hnext.mp hl1)] at i1
      refine ⟨w1, ?_, i2, i3⟩
      have hno := mt hwl.mpr hl1
      apply tX6_buildLane3_29 w0 _ _ _ _ hB0 (by omega) (fun h _ => hroom h) (by omega) (by omega) (by omega) hin
      all_goals (intros; first | with_reducible exact i1 | (exfalso; omega) | (exfalso; exact hno ⟨by assumption, by assumption⟩))
