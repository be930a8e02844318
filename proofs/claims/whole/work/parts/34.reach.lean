/-! reach and height, over a grid g and the quarter times q of the sides -/
def farQ (px py x y side : Int) : Int := if side = 0 then py - 4 * (y + 1) else if side = 1 then 4 * x - px else if side = 2 then 4 * y - py else px - 4 * (x + 1)
def tmQ (q : Int → Int) (px py x y side : Int) : Int := if 0 < farQ px py x y side then farQ px py x y side * q side else 0
def rcQ (q : Int → Int) (px py x y : Int) : Int := max (max (max (tmQ q px py x y 0) (tmQ q px py x y 1)) (tmQ q px py x y 2)) (tmQ q px py x y 3)
def qM (w : eW) : Int → Int := fun s => 2520 / w 38 (140 + s)
theorem tmQ_M (w : eW) (px py x y side : Int) : rX8_timeOf w px py x y side = tmQ (qM w) px py x y side := by
  unfold rX8_timeOf tmQ farQ qM
  by_cases h0 : side = 0
  · simp only [h0, if_true]
  · by_cases h1 : side = 1
    · simp only [h1, if_true, show ¬ (1 : Int) = 0 by decide, if_false]
    · by_cases h2 : side = 2
      · simp only [h2, if_true, show ¬ (2 : Int) = 0 by decide, show ¬ (2 : Int) = 1 by decide, if_false]
      · simp only [h0, h1, h2, if_false]
theorem tmQ_bound {q : Int → Int} (hq : ∀ s, 0 ≤ s → s < 4 → 0 ≤ q s ∧ q s ≤ 2520) {px py x y side : Int} (hp : 0 ≤ px ∧ px ≤ 56 ∧ 0 ≤ py ∧ py ≤ 40) (hx : -1 ≤ x ∧ x ≤ 14 ∧ -1 ≤ y ∧ y ≤ 10) (hs : 0 ≤ side ∧ side < 4) : 0 ≤ tmQ q px py x y side ∧ tmQ q px py x y side ≤ 200000 := by
  have hb := hq side hs.1 hs.2
  have hf : farQ px py x y side ≤ 60 := by unfold farQ; (repeat' split) <;> omega
  unfold tmQ
  by_cases h : 0 < farQ px py x y side
  · rw [if_pos h]
    have h1 : farQ px py x y side * q side ≤ 60 * 2520 := Int.mul_le_mul hf hb.2 hb.1 (by decide)
    exact ⟨Int.mul_nonneg (by omega) hb.1, by omega⟩
  · rw [if_neg h]; omega
theorem qM_bound {w : eW} (hsp : ∀ k, 140 ≤ k → k < 144 → 1 ≤ w 38 k ∧ w 38 k ≤ 9) : ∀ s, 0 ≤ s → s < 4 → 0 ≤ qM w s ∧ qM w s ≤ 2520 := by
  intro s h1 h2
  have := hsp (140 + s) (by omega) (by omega)
  unfold qM
  refine ⟨Int.ediv_nonneg (by decide) (by omega), ?_⟩
  exact Int.ediv_le_self _ (by decide)
theorem rcQ_bound {q : Int → Int} (hq : ∀ s, 0 ≤ s → s < 4 → 0 ≤ q s ∧ q s ≤ 2520) {px py x y : Int} (hp : 0 ≤ px ∧ px ≤ 56 ∧ 0 ≤ py ∧ py ≤ 40) (hx : -1 ≤ x ∧ x ≤ 14 ∧ -1 ≤ y ∧ y ≤ 10) : 0 ≤ rcQ q px py x y ∧ rcQ q px py x y ≤ 200000 := by
  have h0 := tmQ_bound hq hp hx (side := 0) (by decide)
  have h1 := tmQ_bound hq hp hx (side := 1) (by decide)
  have h2 := tmQ_bound hq hp hx (side := 2) (by decide)
  have h3 := tmQ_bound hq hp hx (side := 3) (by decide)
  unfold rcQ
  omega
theorem y_X8_reachOf (w : eW) (px py x y : Int) (hsp : ∀ k, 140 ≤ k → k < 144 → 1 ≤ w 38 k ∧ w 38 k ≤ 9) (hp : 0 ≤ px ∧ px ≤ 56 ∧ 0 ≤ py ∧ py ≤ 40) (hx : -1 ≤ x ∧ x ≤ 14 ∧ -1 ≤ y ∧ y ≤ 10) : Cal mX8_reachOf [eR 33, (0, px), (0, py), (0, x), (0, y)] w (some (0, rcQ (qM w) px py x y)) w := by
  have hq := qM_bound hsp
  have hb : ∀ s, 0 ≤ s → s < 4 → 0 ≤ rX8_timeOf w px py x y s ∧ rX8_timeOf w px py x y s ≤ 200000 := fun s h1 h2 => by rw [tmQ_M]; exact tmQ_bound hq hp hx ⟨h1, h2⟩
  have b0 := hb 0 (by decide) (by decide)
  have b1 := hb 1 (by decide) (by decide)
  have b2 := hb 2 (by decide) (by decide)
  have b3 := hb 3 (by decide) (by decide)
  have step : ∀ (s m : Int) (r : Option eV) (w9 : eW), 0 ≤ s → s < 4 → 0 ≤ m → m ≤ 200000 → Go mX8_reachOf 6 [(0, eR 33), (1, (0, px)), (2, (0, py)), (3, (0, x)), (4, (0, y)), (5, (0, max m (rX8_timeOf w px py x y s))), (6, (0, s + 1))] [] w r w9 → Go mX8_reachOf 6 [(0, eR 33), (1, (0, px)), (2, (0, py)), (3, (0, x)), (4, (0, y)), (5, (0, m)), (6, (0, s))] [] w r w9 := by
    intro s m r w9 h1 h2 h3 h4 h
    have hbs := hb s h1 h2
    apply tX8_reachOf_6 w _ _ _ _ _ _ hsp hp hx (by omega) (by omega) (fun _ => hbs)
    · intro _ hlt
      rw [show max m (rX8_timeOf w px py x y s) = rX8_timeOf w px py x y s by omega] at h
      exact h
    · intro _ hlt
      rw [show max m (rX8_timeOf w px py x y s) = m by omega] at h
      exact h
    · intro hn; omega
  refine Cal.of (by decide +kernel) (Nat.le_of_ble_eq_true rfl) (tX8_reachOf_0 w px py x y ?_)
  refine step 0 0 _ _ (by decide) (by decide) (by decide) (by decide) ?_
  refine step 1 _ _ _ (by decide) (by decide) (by omega) (by omega) ?_
  refine step 2 _ _ _ (by decide) (by decide) (by omega) (by omega) ?_
  refine step 3 _ _ _ (by decide) (by decide) (by omega) (by omega) ?_
  have hfin : max (max (max (max 0 (rX8_timeOf w px py x y 0)) (rX8_timeOf w px py x y 1)) (rX8_timeOf w px py x y 2)) (rX8_timeOf w px py x y 3) = rcQ (qM w) px py x y := by
    unfold rcQ
    rw [← tmQ_M, ← tmQ_M, ← tmQ_M, ← tmQ_M]
    omega
  rw [hfin]
  have hrb := rcQ_bound hq hp hx
  apply tX8_reachOf_6 w _ _ _ _ _ _ hsp hp hx (by decide) (by omega) (fun h => absurd h (by decide))
  · intro h; exact absurd h (by decide)
  · intro h; exact absurd h (by decide)
  · intro _; exact ⟨rfl, rfl⟩
/-- the least reach to a cell that isn't inside -/
def isHt (g : Int → Int → Int) (W H : Int) (q : Int → Int) (px py h : Int) : Prop := (∃ x y, -1 ≤ x ∧ x ≤ W ∧ -1 ≤ y ∧ y ≤ H ∧ ¬ g x y = 1 ∧ rcQ q px py x y = h) ∧ ∀ x y, -1 ≤ x → x ≤ W → -1 ≤ y → y ≤ H → ¬ g x y = 1 → h ≤ rcQ q px py x y
theorem isHt_one {g : Int → Int → Int} {W H : Int} {q : Int → Int} {px py h h' : Int} (h1 : isHt g W H q px py h) (h2 : isHt g W H q px py h') : h = h' := by
  obtain ⟨⟨x, y, a1, a2, a3, a4, a5, a6⟩, b⟩ := h1
  obtain ⟨⟨x', y', c1, c2, c3, c4, c5, c6⟩, d⟩ := h2
  have e1 := b x' y' c1 c2 c3 c4 c5
  have e2 := d x y a1 a2 a3 a4 a5
  omega
noncomputable def htQ (g : Int → Int → Int) (W H : Int) (q : Int → Int) (px py : Int) : Int := Classical.epsilon (isHt g W H q px py)
theorem htQ_is {g : Int → Int → Int} {W H : Int} {q : Int → Int} {px py h : Int} (h1 : isHt g W H q px py h) : htQ g W H q px py = h := isHt_one (Classical.epsilon_spec ⟨h, h1⟩) h1
set_option maxHeartbeats 4000000 in
set_option maxRecDepth 20000 in
theorem tX8_heightOf_0 {r : Option eV} {w9 : eW} (w : eW) (px py : Int) (k1 : Go mX8_heightOf 5 [(0, eR 33), (1, (0, px)), (2, (0, py)), (3, (0, (-1))), (4, (0, (-1)))] [] w r w9) : Go mX8_heightOf 0 [(0, eR 33), (1, (0, px)), (2, (0, py))] [] w r w9 := by
  exact go_iconst (eD DX8_heightOf 0 rfl) (go_istore_n (eD DX8_heightOf 1 rfl) rfl (by decide) (go_iconst (eD DX8_heightOf 2 rfl) (go_istore (eD DX8_heightOf 3 rfl) (by decide) (Go.pick [2, 3, 4, 1, 0] rfl (k1)))))
set_option maxHeartbeats 4000000 in
set_option maxRecDepth 20000 in
theorem tX8_heightOf_5 {r : Option eV} {w9 : eW} (w : eW) (px py least y : Int) (hM : MB w) (hy : -1 ≤ y ∧ y ≤ 11) (k1 : (w 33 25) < y → r = some (0, least) ∧ w9 = w) (k2 : ¬ ((w 33 25) < y) → Go mX8_heightOf 17 [(0, eR 33), (1, (0, px)), (2, (0, py)), (3, (0, least)), (4, (0, y)), (5, (0, (-1)))] [] w r w9) : Go mX8_heightOf 5 [(0, eR 33), (1, (0, px)), (2, (0, py)), (3, (0, least)), (4, (0, y))] [] w r w9 := by
  obtain ⟨⟨c1, c2, c3, c4, c5, c6, c7, c8, c9, c10⟩, c11, c12, c13⟩ := id hM
  refine go_iload (eD DX8_heightOf 4 rfl) rfl (go_aload_n (eD DX8_heightOf 5 rfl) rfl rfl (go_getI (kz := 25) (eD DX8_heightOf 6 rfl) fX8_219 (by decide) rfl rfl rfl (?_)))
  by_cases h1 : (w 33 25) < y
  · refine go_icmp_gtT (tgt := 82) (eD DX8_heightOf 7 rfl) rfl (by omega) (show eI (w 33 25) from by omega) h1 ?_
    rw [(k1 h1).1, (k1 h1).2]
    exact go_iload_n (eD DX8_heightOf 41 rfl) rfl rfl (go_iret (eD DX8_heightOf 42 rfl) rfl)
  · refine go_icmp_gtF (tgt := 82) (eD DX8_heightOf 7 rfl) rfl (by omega) (show eI (w 33 25) from by omega) h1 ?_
    exact go_iconst (eD DX8_heightOf 8 rfl) (go_istore (eD DX8_heightOf 9 rfl) (by decide) (Go.pick [1, 2, 3, 4, 5, 0] rfl (k2 h1)))
set_option maxHeartbeats 4000000 in
set_option maxRecDepth 20000 in
theorem tX8_heightOf_17 {r : Option eV} {w9 : eW} (w : eW) (px py least y x : Int) (hM : MB w) (hsp : ∀ k, 140 ≤ k → k < 144 → 1 ≤ w 38 k ∧ w 38 k ≤ 9) (hp : 0 ≤ px ∧ px ≤ 56 ∧ 0 ≤ py ∧ py ≤ 40) (hl : -1 ≤ least ∧ least ≤ 200000) (hy : -1 ≤ y ∧ y ≤ w 33 25) (hx : -1 ≤ x ∧ x ≤ 15) (hr : x ≤ w 33 24 → 0 ≤ rcQ (qM w) px py x y ∧ rcQ (qM w) px py x y ≤ 200000) (k1 : (w 33 24) < x → Go mX8_heightOf 5 [(0, eR 33), (1, (0, px)), (2, (0, py)), (3, (0, least)), (4, (0, y + 1))] [] w r w9) (k2 : ¬ ((w 33 24) < x) → insM w x y → Go mX8_heightOf 17 [(0, eR 33), (1, (0, px)), (2, (0, py)), (3, (0, least)), (4, (0, y)), (5, (0, x + 1))] [] w r w9) (k3 : ¬ ((w 33 24) < x) → ¬ (insM w x y) → least = (-1) → Go mX8_heightOf 17 [(0, eR 33), (1, (0, px)), (2, (0, py)), (3, (0, rcQ (qM w) px py x y)), (4, (0, y)), (5, (0, x + 1))] [] w r w9) (k4 : ¬ ((w 33 24) < x) → ¬ (insM w x y) → ¬ (least = (-1)) → (rcQ (qM w) px py x y) < least → Go mX8_heightOf 17 [(0, eR 33), (1, (0, px)), (2, (0, py)), (3, (0, rcQ (qM w) px py x y)), (4, (0, y)), (5, (0, x + 1))] [] w r w9) (k5 : ¬ ((w 33 24) < x) → ¬ (insM w x y) → ¬ (least = (-1)) → ¬ ((rcQ (qM w) px py x y) < least) → Go mX8_heightOf 17 [(0, eR 33), (1, (0, px)), (2, (0, py)), (3, (0, least)), (4, (0, y)), (5, (0, x + 1))] [] w r w9) : Go mX8_heightOf 17 [(0, eR 33), (1, (0, px)), (2, (0, py)), (3, (0, least)), (4, (0, y)), (5, (0, x))] [] w r w9 := by
  obtain ⟨⟨c1, c2, c3, c4, c5, c6, c7, c8, c9, c10⟩, c11, c12, c13⟩ := id hM
  refine go_iload (eD DX8_heightOf 10 rfl) rfl (go_aload_n (eD DX8_heightOf 11 rfl) rfl rfl (go_getI (kz := 24) (eD DX8_heightOf 12 rfl) fX8_216 (by decide) rfl rfl rfl (?_)))
  by_cases h1 : (w 33 24) < x
  · refine go_icmp_gtT (tgt := 76) (eD DX8_heightOf 13 rfl) rfl (by omega) (show eI (w 33 24) from by omega) h1 ?_
    exact go_iinc (eD DX8_heightOf 39 rfl) rfl (by decide) (go_goto (tgt := 5) (eD DX8_heightOf 40 rfl) rfl (Go.pick [1, 2, 3, 4, 0] rfl (k1 h1)))
  · refine go_icmp_gtF (tgt := 76) (eD DX8_heightOf 13 rfl) rfl (by omega) (show eI (w 33 24) from by omega) h1 ?_
    refine go_aload_n (eD DX8_heightOf 14 rfl) rfl rfl (go_iload (eD DX8_heightOf 15 rfl) rfl (go_iload (eD DX8_heightOf 16 rfl) rfl (go_callV (ci := 8) [(0, x), (0, y)] (eD DX8_heightOf 17 rfl) ⟨eMem 6 75 rfl rfl, sX8_isInside⟩ ⟨Nat.le_of_ble_eq_true rfl, Nat.le_of_ble_eq_true rfl⟩ (by decide) ⟨rfl, by decide, _, rfl, rfl⟩ rfl rfl (Nat.le_of_ble_eq_true rfl) (y_b_X8_isInside w x y (by omega) (by omega) (by assumption)) (?_))))
    by_cases h2 : insM w x y
    · refine go_if_eqF (tgt := 40) (eD DX8_heightOf 18 rfl) rfl (eI_pI _) (pI1 h2) ?_
      exact go_goto (tgt := 70) (eD DX8_heightOf 19 rfl) rfl (go_iinc (eD DX8_heightOf 37 rfl) rfl (by decide) (go_goto (tgt := 17) (eD DX8_heightOf 38 rfl) rfl (Go.pick [1, 2, 3, 4, 5, 0] rfl (k2 h1 h2))))
    · refine go_if_eqT (tgt := 40) (eD DX8_heightOf 18 rfl) rfl (eI_pI _) (pI0 h2) ?_
      refine go_aload_n (eD DX8_heightOf 20 rfl) rfl rfl (go_iload_n (eD DX8_heightOf 21 rfl) rfl rfl (go_iload_n (eD DX8_heightOf 22 rfl) rfl rfl (go_iload (eD DX8_heightOf 23 rfl) rfl (go_iload (eD DX8_heightOf 24 rfl) rfl (go_callV (ci := 8) [(0, px), (0, py), (0, x), (0, y)] (eD DX8_heightOf 25 rfl) ⟨eMem 6 177 rfl rfl, sX8_reachOf⟩ ⟨Nat.le_of_ble_eq_true rfl, Nat.le_of_ble_eq_true rfl⟩ (by decide) ⟨rfl, by decide, _, rfl, rfl⟩ rfl rfl (Nat.le_of_ble_eq_true rfl) (y_X8_reachOf w px py x y hsp (by omega) (by omega)) (go_istore (eD DX8_heightOf 26 rfl) (by decide) (go_iload_n (eD DX8_heightOf 27 rfl) rfl rfl (go_iconst (eD DX8_heightOf 28 rfl) (?_)))))))))
      by_cases h3 : least = (-1)
      · refine go_icmp_eqT (tgt := 63) (eD DX8_heightOf 29 rfl) rfl (by omega) (by decide) h3 ?_
        exact go_iload (eD DX8_heightOf 33 rfl) rfl (go_goto (tgt := 69) (eD DX8_heightOf 34 rfl) rfl (go_istore_n (eD DX8_heightOf 36 rfl) rfl (by decide) (go_iinc (eD DX8_heightOf 37 rfl) rfl (by decide) (go_goto (tgt := 17) (eD DX8_heightOf 38 rfl) rfl (Go.pick [3, 4, 5, 1, 6, 0] rfl (k3 h1 h2 h3))))))
      · refine go_icmp_eqF (tgt := 63) (eD DX8_heightOf 29 rfl) rfl (by omega) (by decide) h3 ?_
        refine go_iload (eD DX8_heightOf 30 rfl) rfl (go_iload_n (eD DX8_heightOf 31 rfl) rfl rfl (?_))
        by_cases h4 : (rcQ (qM w) px py x y) < least
        · refine go_icmp_geF (tgt := 68) (eD DX8_heightOf 32 rfl) rfl (show eI (rcQ (qM w) px py x y) from by omega) (by omega) (Int.not_le.mpr h4) ?_
          exact go_iload (eD DX8_heightOf 33 rfl) rfl (go_goto (tgt := 69) (eD DX8_heightOf 34 rfl) rfl (go_istore_n (eD DX8_heightOf 36 rfl) rfl (by decide) (go_iinc (eD DX8_heightOf 37 rfl) rfl (by decide) (go_goto (tgt := 17) (eD DX8_heightOf 38 rfl) rfl (Go.pick [3, 4, 5, 1, 6, 0] rfl (k4 h1 h2 h3 h4))))))
        · refine go_icmp_geT (tgt := 68) (eD DX8_heightOf 32 rfl) rfl (show eI (rcQ (qM w) px py x y) from by omega) (by omega) (Int.not_lt.mp h4) ?_
          exact go_iload_n (eD DX8_heightOf 35 rfl) rfl rfl (go_istore_n (eD DX8_heightOf 36 rfl) rfl (by decide) (go_iinc (eD DX8_heightOf 37 rfl) rfl (by decide) (go_goto (tgt := 17) (eD DX8_heightOf 38 rfl) rfl (Go.pick [3, 4, 5, 1, 6, 0] rfl (k5 h1 h2 h3 h4)))))
