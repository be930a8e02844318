/-- the walls' numbers are small -/
def WB (S : eW) : Prop := ∀ k, 0 ≤ k → k < S 0 0 → (0 ≤ S 1 k ∧ S 1 k < 4) ∧ (0 ≤ S 2 k ∧ S 2 k < 14) ∧ (0 ≤ S 3 k ∧ S 3 k < 10) ∧ 1 ≤ S 4 k ∧ S 4 k ≤ 14
theorem WB_lane {g : Int → Int → Int} {S : eW} {side lane : Int} (hs : 0 ≤ side ∧ side < 4) (N : Nat) (hr : ((side = 0 ∨ side = 2) → 0 ≤ lane ∧ lane < 10 ∧ N ≤ 14) ∧ (¬ (side = 0 ∨ side = 2) → 0 ≤ lane ∧ lane < 14 ∧ N ≤ 10)) (h0 : 0 ≤ S 0 0) (h : WB S) : ∀ n : Nat, n ≤ N → 0 ≤ wLn g side lane S n 0 0 ∧ WB (wLn g side lane S n) ∧ (wasP g side lane n → WK (wLn g side lane S n) side lane n) := by
  intro n
  induction n with
  | zero => intro _; exact ⟨h0, h, fun q => absurd q.1 (by decide)⟩
  | succ n ih =>
    intro hn
    obtain ⟨h1, h2, h3⟩ := ih (by omega)
    rw [wLn, show ((n + 1 : Nat) : Int) = (n : Int) + 1 by omega]
    generalize hT : wLn g side lane S n = T at *
    have hx : 0 ≤ pX side lane n ∧ pX side lane n < 14 := by
      unfold pX
      by_cases hl : side = 0 ∨ side = 2
      · rw [if_pos hl]; have := hr.1 hl; omega
      · rw [if_neg hl]; have := hr.2 hl; omega
    have hy : 0 ≤ pY side lane n ∧ pY side lane n < 10 := by
      unfold pY
      by_cases hl : side = 0 ∨ side = 2
      · rw [if_pos hl]; have := hr.1 hl; omega
      · rw [if_neg hl]; have := hr.2 hl; omega
    have hnext : wasP g side lane ((n : Int) + 1) ↔ wlI g side (pX side lane n) (pY side lane n) := by
      unfold wasP
      rw [show (n : Int) + 1 - 1 = n by omega]
      exact ⟨fun q => q.2, fun q => ⟨by omega, q⟩⟩
    unfold wCell
    by_cases hw : wlI g side (pX side lane n) (pY side lane n)
    · rw [if_pos hw]
      by_cases hp : wasP g side lane n
      · rw [if_pos hp]
        obtain ⟨k1, k2, k3, k4, k5⟩ := h3 hp
        refine ⟨by rw [wLenS_n]; exact h1, fun k g1 g2 => ?_, fun _ => ?_⟩
        · rw [wLenS_n] at g2
          obtain ⟨q1, q2, q3, q4⟩ := h2 k g1 g2
          refine ⟨q1, q2, q3, ?_⟩
          rw [wL_4]
          by_cases hk : k = T 0 0 - 1
          · subst hk
            rw [if_pos rfl]
            by_cases hl : side = 0 ∨ side = 2
            · have := k4 hl; have := hr.1 hl; omega
            · have := k5 hl; have := hr.2 hl; omega
          · rw [if_neg hk]; exact q4
        · unfold WK
          rw [wLenS_n, wL_4, if_pos rfl]
          exact ⟨k1, k2, by omega, fun hl => by have := k4 hl; show T 3 _ = _ ∧ T 2 _ + _ = _; omega, fun hl => by have := k5 hl; show T 2 _ = _ ∧ T 3 _ + _ = _; omega⟩
      · rw [if_neg hp]
        refine ⟨by rw [wLenS_n, wBegS_n]; omega, fun k g1 g2 => ?_, fun _ => ?_⟩
        · rw [wLenS_n, wBegS_n] at g2
          rw [wLB_1, wLB_2, wLB_3, wLB_4]
          by_cases hk : k = T 0 0
          · rw [if_pos hk, if_pos hk, if_pos hk, if_pos hk]
            exact ⟨hs, hx, hy, by omega, by omega⟩
          · rw [if_neg hk, if_neg hk, if_neg hk, if_neg hk]
            exact h2 k g1 (by omega)
        · unfold WK
          rw [wLenS_n, wBegS_n, show T 0 0 + 1 - 1 = T 0 0 by omega, wLB_1, wLB_2, wLB_3, wLB_4, if_pos rfl, if_pos rfl, if_pos rfl, if_pos rfl]
          refine ⟨by omega, rfl, by omega, fun hl => ?_, fun hl => ?_⟩
          · unfold pX pY; rw [if_pos hl, if_pos hl]; exact ⟨rfl, rfl⟩
          · unfold pX pY; rw [if_neg hl, if_neg hl]; exact ⟨rfl, rfl⟩
    · rw [if_neg hw]
      exact ⟨h1, h2, fun q => absurd (hnext.mp q) hw⟩
theorem WB_side {g : Int → Int → Int} {S : eW} {side : Int} {W H : Nat} (hW : W ≤ 14) (hH : H ≤ 10) (hs : 0 ≤ side ∧ side < 4) (h0 : 0 ≤ S 0 0) (h : WB S) : ∀ n : Nat, n ≤ (if side = 0 ∨ side = 2 then H else W) → 0 ≤ wSd g side (if side = 0 ∨ side = 2 then W else H) S n 0 0 ∧ WB (wSd g side (if side = 0 ∨ side = 2 then W else H) S n) := by
  intro n
  induction n with
  | zero => intro _; exact ⟨h0, h⟩
  | succ n ih =>
    intro hn
    obtain ⟨h1, h2⟩ := ih (by omega)
    rw [wSd]
    by_cases hl : side = 0 ∨ side = 2
    · rw [if_pos hl] at hn h1 h2 ⊢
      have := WB_lane hs W ⟨fun _ => by omega, fun z => absurd hl z⟩ h1 h2 W (Nat.le_refl _) (g := g) (lane := (n : Int))
      exact ⟨this.1, this.2.1⟩
    · rw [if_neg hl] at hn h1 h2 ⊢
      have := WB_lane hs H ⟨fun z => absurd z hl, fun _ => by omega⟩ h1 h2 H (Nat.le_refl _) (g := g) (lane := (n : Int))
      exact ⟨this.1, this.2.1⟩
theorem WB_all {g : Int → Int → Int} {W H : Nat} (hW : W ≤ 14) (hH : H ≤ 10) : ∀ k : Nat, k ≤ 4 → 0 ≤ wAl g W H k 0 0 ∧ WB (wAl g W H k) := by
  intro k
  induction k with
  | zero => intro _; exact ⟨Int.le_refl _, fun k k1 k2 => absurd k2 (by show ¬ k < 0; omega)⟩
  | succ k ih =>
    intro hk
    obtain ⟨h1, h2⟩ := ih (by omega)
    rw [wAl]
    have hc : ((k : Int) = 0 ∨ (k : Int) = 2) ↔ (k = 0 ∨ k = 2) := by omega
    have h3 := WB_side hW hH (g := g) (side := (k : Int)) (by omega) h1 h2 (if k = 0 ∨ k = 2 then H else W)
    by_cases hl : k = 0 ∨ k = 2
    · rw [if_pos hl, if_pos (hc.mpr hl), if_pos (hc.mpr hl)] at h3
      rw [if_pos hl, if_pos hl]
      exact h3 (Nat.le_refl _)
    · rw [if_neg hl, if_neg (mt hc.mp hl), if_neg (mt hc.mp hl)] at h3
      rw [if_neg hl, if_neg hl]
      exact h3 (Nat.le_refl _)
def rX8_timeOf (w : eW) (px py x y side : Int) : Int := if side = 0 then (if 0 < (py - (4 * (y + 1))) then ((py - (4 * (y + 1))) * (2520 / (w 38 (140 + side)))) else 0) else (if side = 1 then (if 0 < ((4 * x) - px) then (((4 * x) - px) * (2520 / (w 38 (140 + side)))) else 0) else (if side = 2 then (if 0 < ((4 * y) - py) then (((4 * y) - py) * (2520 / (w 38 (140 + side)))) else 0) else (if 0 < (px - (4 * (x + 1))) then ((px - (4 * (x + 1))) * (2520 / (w 38 (140 + side)))) else 0)))
set_option maxRecDepth 20000 in
theorem zX8_timeOf (w : eW) (px py x y side : Int) (hpx : eI px) (hpy : eI py) (hx : eI x) (hy : eI y) (hside : eI side) (hsp : ∀ k, 140 ≤ k → k < 144 → 1 ≤ w 38 k ∧ w 38 k ≤ 9) (hp : 0 ≤ px ∧ px ≤ 56 ∧ 0 ≤ py ∧ py ≤ 40) (hx2 : -1 ≤ x ∧ x ≤ 14 ∧ -1 ≤ y ∧ y ≤ 10) (hs : 0 ≤ side ∧ side < 4) : Cal mX8_timeOf [eR 33, (0, px), (0, py), (0, x), (0, y), (0, side)] w (some (0, rX8_timeOf w px py x y side)) w := by
  have hq := hsp (140 + side) (by omega) (by omega)
  unfold rX8_timeOf
  refine Cal.of (by decide +kernel) (Nat.le_of_ble_eq_true rfl) ?_
  show Go _ 0 [(0, eR 33), (1, (0, px)), (2, (0, py)), (3, (0, x)), (4, (0, y)), (5, (0, side))] [] _ _ _
  refine go_iload (eD DX8_timeOf 0 rfl) rfl (?_)
  by_cases h1 : side = 0
  · refine go_if_neF (tgt := 16) (eD DX8_timeOf 1 rfl) rfl (by omega) (not_not_intro h1) ?_
    refine go_iload_n (eD DX8_timeOf 2 rfl) rfl rfl (go_iconst (eD DX8_timeOf 3 rfl) (go_iload (eD DX8_timeOf 4 rfl) rfl (go_iconst (eD DX8_timeOf 5 rfl) (go_iadd (eD DX8_timeOf 6 rfl) (go_imul (eD DX8_timeOf 7 rfl) (go_isub (eD DX8_timeOf 8 rfl) (go_goto (tgt := 52) (eD DX8_timeOf 9 rfl) rfl (go_istore (eD DX8_timeOf 35 rfl) (by decide) (go_iload (eD DX8_timeOf 36 rfl) rfl (?_))))))))))
    by_cases h2 : 0 < (py - (4 * (y + 1)))
    · refine go_if_leF (tgt := 75) (eD DX8_timeOf 37 rfl) rfl (by omega) (Int.not_le.mpr h2) ?_
      refine go_iload (eD DX8_timeOf 38 rfl) rfl (go_sipush (eD DX8_timeOf 39 rfl) (by decide) (go_aload_n (eD DX8_timeOf 40 rfl) rfl rfl (go_iload (eD DX8_timeOf 41 rfl) rfl (?_))))
      refine go_callV (ci := 8) [(0, side)] (eD DX8_timeOf 42 rfl) ⟨eMem 6 97 rfl rfl, sX8_speedOf⟩ ⟨Nat.le_of_ble_eq_true rfl, Nat.le_of_ble_eq_true rfl⟩ (by decide) ⟨rfl, by decide, _, rfl, rfl⟩ rfl rfl (Nat.le_of_ble_eq_true rfl) (Cal.as (zX8_speedOf w side (by omega) (by omega)) (r2 := some (0, w 38 (140 + side))) (w2 := w) (by (try simp only [rX8_speedOf, if_pos h1, if_pos h2]) <;> (try rfl)) rfl) (?_)
      simp only [if_pos h1, if_pos h2]
      exact go_idiv (eD DX8_timeOf 43 rfl) (by decide) (show eI (w 38 (140 + side)) from by omega) (show (0 : Int) ≤ 2520 from by decide) (show 0 < (w 38 (140 + side)) from by omega) (go_imul (eD DX8_timeOf 44 rfl) (go_goto (tgt := 76) (eD DX8_timeOf 45 rfl) rfl (go_iret (eD DX8_timeOf 47 rfl) rfl)))
    · refine go_if_leT (tgt := 75) (eD DX8_timeOf 37 rfl) rfl (by omega) (Int.not_lt.mp h2) ?_
      simp only [if_pos h1, if_neg h2]
      exact go_iconst (eD DX8_timeOf 46 rfl) (go_iret (eD DX8_timeOf 47 rfl) rfl)
  · refine go_if_neT (tgt := 16) (eD DX8_timeOf 1 rfl) rfl (by omega) h1 ?_
    refine go_iload (eD DX8_timeOf 10 rfl) rfl (go_iconst (eD DX8_timeOf 11 rfl) (?_))
    by_cases h2 : side = 1
    · refine go_icmp_neF (tgt := 30) (eD DX8_timeOf 12 rfl) rfl (by omega) (by decide) (not_not_intro h2) ?_
      refine go_iconst (eD DX8_timeOf 13 rfl) (go_iload_n (eD DX8_timeOf 14 rfl) rfl rfl (go_imul (eD DX8_timeOf 15 rfl) (go_iload_n (eD DX8_timeOf 16 rfl) rfl rfl (go_isub (eD DX8_timeOf 17 rfl) (go_goto (tgt := 52) (eD DX8_timeOf 18 rfl) rfl (go_istore (eD DX8_timeOf 35 rfl) (by decide) (go_iload (eD DX8_timeOf 36 rfl) rfl (?_))))))))
      by_cases h3 : 0 < ((4 * x) - px)
      · refine go_if_leF (tgt := 75) (eD DX8_timeOf 37 rfl) rfl (by omega) (Int.not_le.mpr h3) ?_
        refine go_iload (eD DX8_timeOf 38 rfl) rfl (go_sipush (eD DX8_timeOf 39 rfl) (by decide) (go_aload_n (eD DX8_timeOf 40 rfl) rfl rfl (go_iload (eD DX8_timeOf 41 rfl) rfl (?_))))
        refine go_callV (ci := 8) [(0, side)] (eD DX8_timeOf 42 rfl) ⟨eMem 6 97 rfl rfl, sX8_speedOf⟩ ⟨Nat.le_of_ble_eq_true rfl, Nat.le_of_ble_eq_true rfl⟩ (by decide) ⟨rfl, by decide, _, rfl, rfl⟩ rfl rfl (Nat.le_of_ble_eq_true rfl) (Cal.as (zX8_speedOf w side (by omega) (by omega)) (r2 := some (0, w 38 (140 + side))) (w2 := w) (by (try simp only [rX8_speedOf, if_neg h1, if_pos h2, if_pos h3]) <;> (try rfl)) rfl) (?_)
        simp only [if_neg h1, if_pos h2, if_pos h3]
        exact go_idiv (eD DX8_timeOf 43 rfl) (by decide) (show eI (w 38 (140 + side)) from by omega) (show (0 : Int) ≤ 2520 from by decide) (show 0 < (w 38 (140 + side)) from by omega) (go_imul (eD DX8_timeOf 44 rfl) (go_goto (tgt := 76) (eD DX8_timeOf 45 rfl) rfl (go_iret (eD DX8_timeOf 47 rfl) rfl)))
      · refine go_if_leT (tgt := 75) (eD DX8_timeOf 37 rfl) rfl (by omega) (Int.not_lt.mp h3) ?_
        simp only [if_neg h1, if_pos h2, if_neg h3]
        exact go_iconst (eD DX8_timeOf 46 rfl) (go_iret (eD DX8_timeOf 47 rfl) rfl)
    · refine go_icmp_neT (tgt := 30) (eD DX8_timeOf 12 rfl) rfl (by omega) (by decide) h2 ?_
      refine go_iload (eD DX8_timeOf 19 rfl) rfl (go_iconst (eD DX8_timeOf 20 rfl) (?_))
      by_cases h3 : side = 2
      · refine go_icmp_neF (tgt := 45) (eD DX8_timeOf 21 rfl) rfl (by omega) (by decide) (not_not_intro h3) ?_
        refine go_iconst (eD DX8_timeOf 22 rfl) (go_iload (eD DX8_timeOf 23 rfl) rfl (go_imul (eD DX8_timeOf 24 rfl) (go_iload_n (eD DX8_timeOf 25 rfl) rfl rfl (go_isub (eD DX8_timeOf 26 rfl) (go_goto (tgt := 52) (eD DX8_timeOf 27 rfl) rfl (go_istore (eD DX8_timeOf 35 rfl) (by decide) (go_iload (eD DX8_timeOf 36 rfl) rfl (?_))))))))
        by_cases h4 : 0 < ((4 * y) - py)
        · refine go_if_leF (tgt := 75) (eD DX8_timeOf 37 rfl) rfl (by omega) (Int.not_le.mpr h4) ?_
          refine go_iload (eD DX8_timeOf 38 rfl) rfl (go_sipush (eD DX8_timeOf 39 rfl) (by decide) (go_aload_n (eD DX8_timeOf 40 rfl) rfl rfl (go_iload (eD DX8_timeOf 41 rfl) rfl (?_))))
          refine go_callV (ci := 8) [(0, side)] (eD DX8_timeOf 42 rfl) ⟨eMem 6 97 rfl rfl, sX8_speedOf⟩ ⟨Nat.le_of_ble_eq_true rfl, Nat.le_of_ble_eq_true rfl⟩ (by decide) ⟨rfl, by decide, _, rfl, rfl⟩ rfl rfl (Nat.le_of_ble_eq_true rfl) (Cal.as (zX8_speedOf w side (by omega) (by omega)) (r2 := some (0, w 38 (140 + side))) (w2 := w) (by (try simp only [rX8_speedOf, if_neg h1, if_neg h2, if_pos h3, if_pos h4]) <;> (try rfl)) rfl) (?_)
          simp only [if_neg h1, if_neg h2, if_pos h3, if_pos h4]
          exact go_idiv (eD DX8_timeOf 43 rfl) (by decide) (show eI (w 38 (140 + side)) from by omega) (show (0 : Int) ≤ 2520 from by decide) (show 0 < (w 38 (140 + side)) from by omega) (go_imul (eD DX8_timeOf 44 rfl) (go_goto (tgt := 76) (eD DX8_timeOf 45 rfl) rfl (go_iret (eD DX8_timeOf 47 rfl) rfl)))
        · refine go_if_leT (tgt := 75) (eD DX8_timeOf 37 rfl) rfl (by omega) (Int.not_lt.mp h4) ?_
          simp only [if_neg h1, if_neg h2, if_pos h3, if_neg h4]
          exact go_iconst (eD DX8_timeOf 46 rfl) (go_iret (eD DX8_timeOf 47 rfl) rfl)
      · refine go_icmp_neT (tgt := 45) (eD DX8_timeOf 21 rfl) rfl (by omega) (by decide) h3 ?_
        refine go_iload_n (eD DX8_timeOf 28 rfl) rfl rfl (go_iconst (eD DX8_timeOf 29 rfl) (go_iload_n (eD DX8_timeOf 30 rfl) rfl rfl (go_iconst (eD DX8_timeOf 31 rfl) (go_iadd (eD DX8_timeOf 32 rfl) (go_imul (eD DX8_timeOf 33 rfl) (go_isub (eD DX8_timeOf 34 rfl) (go_istore (eD DX8_timeOf 35 rfl) (by decide) (go_iload (eD DX8_timeOf 36 rfl) rfl (?_)))))))))
        by_cases h4 : 0 < (px - (4 * (x + 1)))
        · refine go_if_leF (tgt := 75) (eD DX8_timeOf 37 rfl) rfl (by omega) (Int.not_le.mpr h4) ?_
          refine go_iload (eD DX8_timeOf 38 rfl) rfl (go_sipush (eD DX8_timeOf 39 rfl) (by decide) (go_aload_n (eD DX8_timeOf 40 rfl) rfl rfl (go_iload (eD DX8_timeOf 41 rfl) rfl (?_))))
          refine go_callV (ci := 8) [(0, side)] (eD DX8_timeOf 42 rfl) ⟨eMem 6 97 rfl rfl, sX8_speedOf⟩ ⟨Nat.le_of_ble_eq_true rfl, Nat.le_of_ble_eq_true rfl⟩ (by decide) ⟨rfl, by decide, _, rfl, rfl⟩ rfl rfl (Nat.le_of_ble_eq_true rfl) (Cal.as (zX8_speedOf w side (by omega) (by omega)) (r2 := some (0, w 38 (140 + side))) (w2 := w) (by (try simp only [rX8_speedOf, if_neg h1, if_neg h2, if_neg h3, if_pos h4]) <;> (try rfl)) rfl) (?_)
          simp only [if_neg h1, if_neg h2, if_neg h3, if_pos h4]
          exact go_idiv (eD DX8_timeOf 43 rfl) (by decide) (show eI (w 38 (140 + side)) from by omega) (show (0 : Int) ≤ 2520 from by decide) (show 0 < (w 38 (140 + side)) from by omega) (go_imul (eD DX8_timeOf 44 rfl) (go_goto (tgt := 76) (eD DX8_timeOf 45 rfl) rfl (go_iret (eD DX8_timeOf 47 rfl) rfl)))
        · refine go_if_leT (tgt := 75) (eD DX8_timeOf 37 rfl) rfl (by omega) (Int.not_lt.mp h4) ?_
          simp only [if_neg h1, if_neg h2, if_neg h3, if_neg h4]
          exact go_iconst (eD DX8_timeOf 46 rfl) (go_iret (eD DX8_timeOf 47 rfl) rfl)
set_option maxHeartbeats 4000000 in
set_option maxRecDepth 20000 in
theorem tX8_reachOf_0 {r : Option eV} {w9 : eW} (w : eW) (px py x y : Int) (k1 : Go mX8_reachOf 6 [(0, eR 33), (1, (0, px)), (2, (0, py)), (3, (0, x)), (4, (0, y)), (5, (0, 0)), (6, (0, 0))] [] w r w9) : Go mX8_reachOf 0 [(0, eR 33), (1, (0, px)), (2, (0, py)), (3, (0, x)), (4, (0, y))] [] w r w9 := by
  exact go_iconst (eD DX8_reachOf 0 rfl) (go_istore (eD DX8_reachOf 1 rfl) (by decide) (go_iconst (eD DX8_reachOf 2 rfl) (go_istore (eD DX8_reachOf 3 rfl) (by decide) (Go.pick [2, 3, 4, 5, 6, 1, 0] rfl (k1)))))
set_option maxHeartbeats 4000000 in
set_option maxRecDepth 20000 in
theorem tX8_reachOf_6 {r : Option eV} {w9 : eW} (w : eW) (px py x y most side : Int) (hsp : ∀ k, 140 ≤ k → k < 144 → 1 ≤ w 38 k ∧ w 38 k ≤ 9) (hp : 0 ≤ px ∧ px ≤ 56 ∧ 0 ≤ py ∧ py ≤ 40) (hx2 : -1 ≤ x ∧ x ≤ 14 ∧ -1 ≤ y ∧ y ≤ 10) (hs : 0 ≤ side ∧ side ≤ 4) (hm : 0 ≤ most ∧ most ≤ 200000) (ht : side < 4 → 0 ≤ rX8_timeOf w px py x y side ∧ rX8_timeOf w px py x y side ≤ 200000) (k1 : side < 4 → most < (rX8_timeOf w px py x y side) → Go mX8_reachOf 6 [(0, eR 33), (1, (0, px)), (2, (0, py)), (3, (0, x)), (4, (0, y)), (5, (0, rX8_timeOf w px py x y side)), (6, (0, side + 1))] [] w r w9) (k2 : side < 4 → ¬ (most < (rX8_timeOf w px py x y side)) → Go mX8_reachOf 6 [(0, eR 33), (1, (0, px)), (2, (0, py)), (3, (0, x)), (4, (0, y)), (5, (0, most)), (6, (0, side + 1))] [] w r w9) (k3 : ¬ (side < 4) → r = some (0, most) ∧ w9 = w) : Go mX8_reachOf 6 [(0, eR 33), (1, (0, px)), (2, (0, py)), (3, (0, x)), (4, (0, y)), (5, (0, most)), (6, (0, side))] [] w r w9 := by
  refine go_iload (eD DX8_reachOf 4 rfl) rfl (go_iconst (eD DX8_reachOf 5 rfl) (?_))
  by_cases h1 : side < 4
  · refine go_icmp_geF (tgt := 47) (eD DX8_reachOf 6 rfl) rfl (by omega) (by decide) (Int.not_le.mpr h1) ?_
    refine go_aload_n (eD DX8_reachOf 7 rfl) rfl rfl (go_iload_n (eD DX8_reachOf 8 rfl) rfl rfl (go_iload_n (eD DX8_reachOf 9 rfl) rfl rfl (go_iload_n (eD DX8_reachOf 10 rfl) rfl rfl (go_iload (eD DX8_reachOf 11 rfl) rfl (go_iload (eD DX8_reachOf 12 rfl) rfl (go_callV (ci := 8) [(0, px), (0, py), (0, x), (0, y), (0, side)] (eD DX8_reachOf 13 rfl) ⟨eMem 6 181 rfl rfl, sX8_timeOf⟩ ⟨Nat.le_of_ble_eq_true rfl, Nat.le_of_ble_eq_true rfl⟩ (by decide) ⟨rfl, by decide, _, rfl, rfl⟩ rfl rfl (Nat.le_of_ble_eq_true rfl) (zX8_timeOf w px py x y side (by omega) (by omega) (by omega) (by omega) (by omega) (by first | assumption | omega) (by first | assumption | omega) (by first | assumption | omega) (by first | assumption | omega)) (go_istore (eD DX8_reachOf 14 rfl) (by decide) (go_iload (eD DX8_reachOf 15 rfl) rfl (go_iload (eD DX8_reachOf 16 rfl) rfl (?_))))))))))
    by_cases h2 : most < (rX8_timeOf w px py x y side)
    · refine go_icmp_leF (tgt := 37) (eD DX8_reachOf 17 rfl) rfl (show eI (rX8_timeOf w px py x y side) from by omega) (by omega) (Int.not_le.mpr h2) ?_
      exact go_iload (eD DX8_reachOf 18 rfl) rfl (go_goto (tgt := 39) (eD DX8_reachOf 19 rfl) rfl (go_istore (eD DX8_reachOf 21 rfl) (by decide) (go_iinc (eD DX8_reachOf 22 rfl) rfl (by decide) (go_goto (tgt := 6) (eD DX8_reachOf 23 rfl) rfl (Go.pick [3, 4, 5, 6, 7, 1, 0] rfl (k1 h1 h2))))))
    · refine go_icmp_leT (tgt := 37) (eD DX8_reachOf 17 rfl) rfl (show eI (rX8_timeOf w px py x y side) from by omega) (by omega) (Int.not_lt.mp h2) ?_
      exact go_iload (eD DX8_reachOf 20 rfl) rfl (go_istore (eD DX8_reachOf 21 rfl) (by decide) (go_iinc (eD DX8_reachOf 22 rfl) rfl (by decide) (go_goto (tgt := 6) (eD DX8_reachOf 23 rfl) rfl (Go.pick [3, 4, 5, 6, 7, 1, 0] rfl (k2 h1 h2)))))
  · refine go_icmp_geT (tgt := 47) (eD DX8_reachOf 6 rfl) rfl (by omega) (by decide) (Int.not_lt.mp h1) ?_
    rw [(k3 h1).1, (k3 h1).2]
    exact go_iload (eD DX8_reachOf 24 rfl) rfl (go_iret (eD DX8_reachOf 25 rfl) rfl)
