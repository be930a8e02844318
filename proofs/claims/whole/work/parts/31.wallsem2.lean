theorem WJ_lane {g : Int → Int → Int} {S : eW} {side lane : Int} (hs : 0 ≤ side ∧ side < 4) (N : Nat) (hr : ((side = 0 ∨ side = 2) → 0 ≤ lane ∧ lane < 10 ∧ N ≤ 14) ∧ (¬ (side = 0 ∨ side = 2) → 0 ≤ lane ∧ lane < 14 ∧ N ≤ 10)) (h : WJ g S side lane 0) : ∀ n : Nat, n ≤ N → WJ g (wLn g side lane S n) side lane n ∧ (wasP g side lane n → WK (wLn g side lane S n) side lane n) := by
  intro n
  induction n with
  | zero => intro _; exact ⟨h, fun q => absurd q.1 (by decide)⟩
  | succ n ih =>
    intro hn
    obtain ⟨h1, h2⟩ := ih (by omega)
    rw [wLn, show ((n + 1 : Nat) : Int) = (n : Int) + 1 by omega]
    have hx : 0 ≤ pX side lane n ∧ pX side lane n < 14 := by
      unfold pX
      by_cases hl : side = 0 ∨ side = 2
      · rw [if_pos hl]; have := hr.1 hl; omega
      · rw [if_neg hl]; have := hr.2 hl; omega
    have hy : 0 ≤ pY side lane n ∧ pY side lane n < 10 := by
      unfold pY
      by_cases hl : side = 0 ∨ side = 2
      · rw [if_pos hl]; have := hr.1 hl; omega
      · rw [if_neg hl]; have := hr.2 hl; omega
    have hnext : wasP g side lane ((n : Int) + 1) ↔ wlI g side (pX side lane n) (pY side lane n) := by
      unfold wasP
      rw [show (n : Int) + 1 - 1 = n by omega]
      exact ⟨fun q => q.2, fun q => ⟨by omega, q⟩⟩
    unfold wCell
    by_cases hw : wlI g side (pX side lane n) (pY side lane n)
    · rw [if_pos hw]
      by_cases hp : wasP g side lane n
      · rw [if_pos hp]
        obtain ⟨q1, q2⟩ := WJ_len hs hx hy h1 (h2 hp) hw
        exact ⟨q1, fun _ => q2⟩
      · rw [if_neg hp]
        obtain ⟨q1, q2⟩ := WJ_beg hs hx hy h1 hw
        exact ⟨q1, fun _ => q2⟩
    · rw [if_neg hw]
      exact ⟨WJ_skip h1 hw, fun q => absurd (hnext.mp q) hw⟩
theorem WJ_pr {g : Int → Int → Int} {S : eW} {side lane b side' lane' b' : Int} (h : WJ g S side lane b) (he : ∀ s x y, 0 ≤ s → s < 4 → 0 ≤ x → 0 ≤ y → wlI g s x y → (prc side lane b s x y ↔ prc side' lane' b' s x y)) : WJ g S side' lane' b' := by
  refine ⟨h.1, fun s x y a1 a2 a3 a4 a5 a6 => ?_⟩
  obtain ⟨p1, p2, p3⟩ := h.2 s x y a1 a2 a3 a4 a5 a6
  refine ⟨p1, p2.trans ⟨fun q => ⟨(he s x y a1 a2 a3 a5 q.2).mp q.1, q.2⟩, fun q => ⟨(he s x y a1 a2 a3 a5 q.2).mpr q.1, q.2⟩⟩, p3⟩
theorem WJ_side {g : Int → Int → Int} {S : eW} {side : Int} {W H : Nat} (hW : W ≤ 14) (hH : H ≤ 10) (hg : ∀ x y, g x y = 1 → 0 ≤ x ∧ x < W ∧ 0 ≤ y ∧ y < H) (hs : 0 ≤ side ∧ side < 4) (h : WJ g S side 0 0) : ∀ n : Nat, n ≤ (if side = 0 ∨ side = 2 then H else W) → WJ g (wSd g side (if side = 0 ∨ side = 2 then W else H) S n) side n 0 := by
  intro n
  induction n with
  | zero => intro _; exact h
  | succ n ih =>
    intro hn
    have h1 := ih (by omega)
    rw [wSd]
    by_cases hl : side = 0 ∨ side = 2
    · rw [if_pos hl] at hn h1 ⊢
      have h2 := (WJ_lane hs W ⟨fun _ => by omega, fun z => absurd hl z⟩ h1 W (Nat.le_refl _)).1
      refine WJ_pr h2 (fun s x y a1 a2 a3 a5 hw => ?_)
      have hb := hg x y hw.1
      by_cases hss : s = side
      · subst hss
        rw [prc_lv hl, prc_lv hl]
        omega
      · rw [prc_ne hss, prc_ne hss]
    · rw [if_neg hl] at hn h1 ⊢
      have h2 := (WJ_lane hs H ⟨fun z => absurd z hl, fun _ => by omega⟩ h1 H (Nat.le_refl _)).1
      refine WJ_pr h2 (fun s x y a1 a2 a3 a5 hw => ?_)
      have hb := hg x y hw.1
      by_cases hss : s = side
      · subst hss
        rw [prc_vt hl, prc_vt hl]
        omega
      · rw [prc_ne hss, prc_ne hss]
theorem WJ_all {g : Int → Int → Int} {W H : Nat} (hW : W ≤ 14) (hH : H ≤ 10) (hg : ∀ x y, g x y = 1 → 0 ≤ x ∧ x < W ∧ 0 ≤ y ∧ y < H) : ∀ k : Nat, k ≤ 4 → WJ g (wAl g W H k) k 0 0 := by
  intro k
  induction k with
  | zero =>
    intro _
    refine ⟨Int.le_refl _, fun s x y a1 a2 a3 a4 a5 a6 => ⟨Or.inl rfl, ⟨fun z => absurd z (by show ¬ (0 : Int) ≤ -2; omega), fun z => ?_⟩, fun k k1 k2 => absurd k2 (by show ¬ k < 0; omega)⟩⟩
    exfalso
    have := z.1
    unfold prc at this
    rcases this with q | ⟨q1, q2, q3⟩
    · exact absurd q (by omega)
    · have := q2 (Or.inl q1); omega
  | succ k ih =>
    intro hk
    have h1 := ih (by omega)
    rw [wAl]
    have hc : ((k : Int) = 0 ∨ (k : Int) = 2) ↔ (k = 0 ∨ k = 2) := by omega
    have h2 := WJ_side hW hH hg (side := (k : Int)) (by omega) h1 (if k = 0 ∨ k = 2 then H else W)
    by_cases hl : k = 0 ∨ k = 2
    · rw [if_pos hl, if_pos (hc.mpr hl), if_pos (hc.mpr hl)] at h2
      rw [if_pos hl, if_pos hl]
      refine WJ_pr (h2 (Nat.le_refl _)) (fun s x y a1 a2 a3 a5 hw => ?_)
      have hb := hg x y hw.1
      rw [show ((k + 1 : Nat) : Int) = (k : Int) + 1 by omega]
      by_cases hss : s = (k : Int)
      · subst hss
        rw [prc_lv (hc.mpr hl), prc_ne (by omega)]
        omega
      · rw [prc_ne hss]
        by_cases hs2 : s = (k : Int) + 1
        · subst hs2
          have hv : ¬ ((k : Int) + 1 = 0 ∨ (k : Int) + 1 = 2) := by omega
          rw [prc_vt hv]
          omega
        · rw [prc_ne hs2]
          omega
    · rw [if_neg hl, if_neg (mt hc.mp hl), if_neg (mt hc.mp hl)] at h2
      rw [if_neg hl, if_neg hl]
      refine WJ_pr (h2 (Nat.le_refl _)) (fun s x y a1 a2 a3 a5 hw => ?_)
      have hb := hg x y hw.1
      rw [show ((k + 1 : Nat) : Int) = (k : Int) + 1 by omega]
      by_cases hss : s = (k : Int)
      · subst hss
        rw [prc_vt (mt hc.mp hl), prc_ne (by omega)]
        omega
      · rw [prc_ne hss]
        by_cases hs2 : s = (k : Int) + 1
        · subst hs2
          by_cases hv : (k : Int) + 1 = 0 ∨ (k : Int) + 1 = 2
          · rw [prc_lv hv]
            omega
          · rw [prc_vt hv]
            omega
        · rw [prc_ne hs2]
          omega
/-- the wall of a cell's side: none, or the one that has it -/
theorem wall_sem {g : Int → Int → Int} {W H : Nat} (hW : W ≤ 14) (hH : H ≤ 10) (hg : ∀ x y, g x y = 1 → 0 ≤ x ∧ x < W ∧ 0 ≤ y ∧ y < H) {s x y : Int} (a1 : 0 ≤ s) (a2 : s < 4) (a3 : 0 ≤ x) (a4 : x < 14) (a5 : 0 ≤ y) (a6 : y < 10) :
    (¬ wlI g s x y → wAl g W H 4 5 (s * 140 + y * 14 + x) = -2) ∧ (wlI g s x y → 0 ≤ wAl g W H 4 5 (s * 140 + y * 14 + x) ∧ wAl g W H 4 5 (s * 140 + y * 14 + x) < wAl g W H 4 0 0) ∧ ∀ k, 0 ≤ k → k < wAl g W H 4 0 0 → (cov (wAl g W H 4) k s x y ↔ wAl g W H 4 5 (s * 140 + y * 14 + x) = k) := by
  obtain ⟨p1, p2, p3⟩ := (WJ_all hW hH hg 4 (Nat.le_refl _)).2 s x y a1 a2 a3 a4 a5 a6
  have hp : prc ((4 : Nat) : Int) 0 0 s x y := Or.inl a2
  refine ⟨fun hn => ?_, fun hw => ?_, p3⟩
  · rcases p1 with q | q
    · exact q
    · exact absurd (p2.mp q.1).2 hn
  · have := p2.mpr ⟨hp, hw⟩
    omega
