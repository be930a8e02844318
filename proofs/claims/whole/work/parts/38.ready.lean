theorem y_X0_lineAt (w : eW) (y : Int) (hy : eI y) (hB : HB w) : Cal mX0_lineAt [eR 2, (0, y)] w (some (0, rowAt w y)) w := by
  refine Cal.as (zX0_lineAt w y hy hB) ?_ rfl
  obtain ⟨⟨b1, b2, b3, b4, b5, b6⟩, b7, b8, b9⟩ := id hB
  unfold rX0_lineAt rowAt
  congr 2
  (repeat' split) <;> first | rfl | omega
theorem rowAt_b {w : eW} (hB : HB w) (y : Int) : 0 ≤ rowAt w y ∧ rowAt w y < 16384 := by
  obtain ⟨⟨b1, b2, b3, b4, b5, b6⟩, b7, b8, b9⟩ := id hB
  unfold rowAt
  split
  · exact b7 y (by omega) (by omega)
  · omega
theorem isN_one {lane place ahead behind t t' : Int} (h1 : isN lane place ahead behind t) (h2 : isN lane place ahead behind t') : t = t' := by
  obtain ⟨⟨x, a1, a2, a3, a4⟩, b⟩ := h1
  obtain ⟨⟨x', c1, c2, c3, c4⟩, d⟩ := h2
  have e1 := b x' c3
  have e2 := d x a3
  omega
/-- the least time along a lane, by name -/
noncomputable def nT (lane place ahead behind : Int) : Int := Classical.epsilon (isN lane place ahead behind)
theorem nT_is {lane place ahead behind t : Int} (h : isN lane place ahead behind t) : nT lane place ahead behind = t := isN_one (Classical.epsilon_spec ⟨t, h⟩) h
theorem y_nT (w : eW) (lane place ahead behind : Int) (hb : 0 ≤ lane ∧ lane < 16384) (hp : 0 ≤ place ∧ place ≤ 56) (ha : 0 ≤ ahead ∧ ahead ≤ 2520) (hbh : 0 ≤ behind ∧ behind ≤ 2520) : Cal mX5_nearestTime [(0, lane), (0, place), (0, ahead), (0, behind)] w (some (0, nT lane place ahead behind)) w := by
  obtain ⟨t, h1, h2⟩ := y_X5_nearestTime w lane place ahead behind hb hp ha hbh
  rw [nT_is h1]
  exact h2
theorem nT_isN {lane place ahead behind : Int} (hb : 0 ≤ lane ∧ lane < 16384) (hp : 0 ≤ place ∧ place ≤ 56) (ha : 0 ≤ ahead ∧ ahead ≤ 2520) (hbh : 0 ≤ behind ∧ behind ≤ 2520) : isN lane place ahead behind (nT lane place ahead behind) := by
  obtain ⟨t, h1, h2⟩ := y_X5_nearestTime (fun _ _ => 0) lane place ahead behind hb hp ha hbh
  rw [nT_is h1]
  exact h1
theorem n1_le {place ahead behind i : Int} (hp : 0 ≤ place ∧ place ≤ 56) (ha : 0 ≤ ahead ∧ ahead ≤ 2520) (hbh : 0 ≤ behind ∧ behind ≤ 2520) (hi : -1 ≤ i ∧ i ≤ 14) : n1 place ahead behind i ≤ 200000 := by
  unfold n1
  have h1 : (if 0 < 4 * i - place then (4 * i - place) * ahead else 0) ≤ 200000 := by
    split
    · have : (4 * i - place) * ahead ≤ 60 * 2520 := Int.mul_le_mul (by omega) ha.2 ha.1 (by decide)
      omega
    · omega
  have h2 : (if 0 < place - 4 * (i + 1) then (place - 4 * (i + 1)) * behind else 0) ≤ 200000 := by
    split
    · have : (place - 4 * (i + 1)) * behind ≤ 60 * 2520 := Int.mul_le_mul (by omega) hbh.2 hbh.1 (by decide)
      omega
    · omega
  omega
theorem nT_b {lane place ahead behind : Int} (hb : 0 ≤ lane ∧ lane < 16384) (hp : 0 ≤ place ∧ place ≤ 56) (ha : 0 ≤ ahead ∧ ahead ≤ 2520) (hbh : 0 ≤ behind ∧ behind ≤ 2520) : 0 ≤ nT lane place ahead behind ∧ nT lane place ahead behind ≤ 200000 := by
  obtain ⟨⟨i, a1, a2, a3, a4⟩, b⟩ := nT_isN hb hp ha hbh
  rw [← a4]
  exact ⟨n1_0 _ ha.1 hbh.1 _, n1_le hp ha hbh ⟨a1, a2⟩⟩
theorem nT_0 {place ahead behind : Int} (hp : 0 ≤ place ∧ place ≤ 56) (ha : 0 ≤ ahead) (hbh : 0 ≤ behind) : nT 0 place ahead behind = 0 := by
  refine nT_is ⟨⟨place / 4, by omega, by omega, ?_, n1_zero (by omega) (by omega)⟩, fun i _ => n1_0 _ ha hbh _⟩
  intro h
  have := h.2.2
  rw [Int.zero_ediv] at this
  exact absurd this (by decide)
/-- the class's quarter times -/
def qC (w : eW) : Int → Int := fun s => 2520 / w 4 s
/-- a house as it is left by a text or an act: speeds, and no cell beyond the frame -/
def HH (w : eW) : Prop := HB w ∧ (∀ i, 0 ≤ i → i < 4 → 1 ≤ w 4 i) ∧ ∀ y x, 0 ≤ y → y < 10 → 0 ≤ x → x < 14 → w 3 y / 2 ^ x.toNat % 2 = 1 → x < w 2 0 ∧ y < w 2 1
/-- the roof's times and columns are those of the house -/
def RY (w : eW) : Prop := w 16 9 = 1 ∧ (∀ s, 0 ≤ s → s < 4 → w 17 s = qC w s) ∧ ∀ x, 0 ≤ x → x < 14 → (0 ≤ w 18 x ∧ w 18 x < 16384) ∧ ∀ y, hb14 (w 18 x) y ↔ insC w x y
theorem qC_b {w : eW} (hH : HH w) : ∀ s, 0 ≤ s → s < 4 → 1 ≤ qC w s ∧ qC w s ≤ 2520 := by
  intro s h1 h2
  obtain ⟨hB, h3, h4⟩ := hH
  obtain ⟨⟨b1, b2, b3, b4, b5, b6⟩, b7, b8, b9⟩ := id hB
  have g1 := h3 s h1 h2
  have g2 := b8 s h1 h2
  unfold qC
  refine ⟨?_, Int.ediv_le_self _ (by decide)⟩
  rw [Int.le_ediv_iff_mul_le (by omega)]
  omega
theorem hb_ins {w : eW} (hH : HH w) (x y : Int) : hb14 (rowAt w y) x ↔ insC w x y := by
  obtain ⟨hB, h3, h4⟩ := hH
  obtain ⟨⟨b1, b2, b3, b4, b5, b6⟩, b7, b8, b9⟩ := id hB
  unfold rowAt
  constructor
  · intro h
    split at h
    · obtain ⟨q1, q2, q3⟩ := h
      exact ⟨q1, (h4 y x (by omega) (by omega) q1 q2 q3).1, by omega, by omega, q3⟩
    · have := h.2.2
      rw [Int.zero_ediv] at this
      exact absurd this (by decide)
  · intro h
    rw [if_pos ⟨h.2.2.1, h.2.2.2.1⟩]
    exact ⟨h.1, by omega, h.2.2.2.2⟩
/-- the time along a row -/
noncomputable def rT (w : eW) (px y : Int) : Int := nT (rowAt w y) px (qC w 1) (qC w 3)
/-- the rows of a place are ready -/
def RR (w : eW) (px : Int) : Prop := ∀ y, 0 ≤ y → y < w 2 1 → w 19 (px * 10 + y) = rT w px y
def cT (w : eW) (x : Int) : Int := if x < 0 then 0 else if x < 14 then w 20 x else 0
theorem rT_b {w : eW} (hH : HH w) {px : Int} (hp : 0 ≤ px ∧ px ≤ 56) (y : Int) : 0 ≤ rT w px y ∧ rT w px y ≤ 200000 := by
  have h1 := qC_b hH 1 (by decide) (by decide)
  have h3 := qC_b hH 3 (by decide) (by decide)
  exact nT_b (rowAt_b hH.1 y) hp (by omega) (by omega)
theorem rT_out {w : eW} (hH : HH w) {px y : Int} (hp : 0 ≤ px ∧ px ≤ 56) (hy : y < 0 ∨ w 2 1 ≤ y) : rT w px y = 0 := by
  have h1 := qC_b hH 1 (by decide) (by decide)
  have h3 := qC_b hH 3 (by decide) (by decide)
  unfold rT rowAt
  rw [if_neg (by omega)]
  exact nT_0 hp (by omega) (by omega)
def rX5_timeOf (w : eW) (side : Int) : Int := if side < 0 then 0 else (if side < 4 then (w 17 side) else 0)
set_option maxRecDepth 20000 in
theorem zX5_timeOf (w : eW) (side : Int) (hside : eI side) : Cal mX5_timeOf [eR 16, (0, side)] w (some (0, rX5_timeOf w side)) w := by
  unfold rX5_timeOf
  refine Cal.of (by decide +kernel) (Nat.le_of_ble_eq_true rfl) ?_
  show Go _ 0 [(0, eR 16), (1, (0, side))] [] _ _ _
  refine go_iload_n (eD DX5_timeOf 0 rfl) rfl rfl (?_)
  by_cases h1 : side < 0
  · refine go_if_ltT (tgt := 22) (eD DX5_timeOf 1 rfl) rfl (by omega) h1 ?_
    simp only [if_pos h1]
    exact go_iconst (eD DX5_timeOf 12 rfl) (go_iret (eD DX5_timeOf 13 rfl) rfl)
  · refine go_if_ltF (tgt := 22) (eD DX5_timeOf 1 rfl) rfl (by omega) h1 ?_
    refine go_iload_n (eD DX5_timeOf 2 rfl) rfl rfl (go_aload_n (eD DX5_timeOf 3 rfl) rfl rfl (go_getR (t := 17) (eD DX5_timeOf 4 rfl) fX5_9 (by decide) rfl ⟨rfl, rfl⟩ (go_alen (n := 4) (eD DX5_timeOf 5 rfl) (by decide) rfl (by decide) (?_))))
    by_cases h2 : side < 4
    · refine go_icmp_geF (tgt := 22) (eD DX5_timeOf 6 rfl) rfl (by omega) (by decide) (Int.not_le.mpr h2) ?_
      simp only [if_neg h1, if_pos h2]
      exact go_aload_n (eD DX5_timeOf 7 rfl) rfl rfl (go_getR (t := 17) (eD DX5_timeOf 8 rfl) fX5_9 (by decide) rfl ⟨rfl, rfl⟩ (go_iload_n (eD DX5_timeOf 9 rfl) rfl rfl (go_iald (n := 4) (eD DX5_timeOf 10 rfl) (by decide) rfl (by omega) (go_goto (tgt := 23) (eD DX5_timeOf 11 rfl) rfl (go_iret (eD DX5_timeOf 13 rfl) rfl)))))
    · refine go_icmp_geT (tgt := 22) (eD DX5_timeOf 6 rfl) rfl (by omega) (by decide) (Int.not_lt.mp h2) ?_
      simp only [if_neg h1, if_neg h2]
      exact go_iconst (eD DX5_timeOf 12 rfl) (go_iret (eD DX5_timeOf 13 rfl) rfl)
def rX5_columnAt (w : eW) (x : Int) : Int := if x < 0 then 0 else (if x < 14 then (w 18 x) else 0)
set_option maxRecDepth 20000 in
theorem zX5_columnAt (w : eW) (x : Int) (hx : eI x) : Cal mX5_columnAt [eR 16, (0, x)] w (some (0, rX5_columnAt w x)) w := by
  unfold rX5_columnAt
  refine Cal.of (by decide +kernel) (Nat.le_of_ble_eq_true rfl) ?_
  show Go _ 0 [(0, eR 16), (1, (0, x))] [] _ _ _
  refine go_iload_n (eD DX5_columnAt 0 rfl) rfl rfl (?_)
  by_cases h1 : x < 0
  · refine go_if_ltT (tgt := 22) (eD DX5_columnAt 1 rfl) rfl (by omega) h1 ?_
    simp only [if_pos h1]
    exact go_iconst (eD DX5_columnAt 12 rfl) (go_iret (eD DX5_columnAt 13 rfl) rfl)
  · refine go_if_ltF (tgt := 22) (eD DX5_columnAt 1 rfl) rfl (by omega) h1 ?_
    refine go_iload_n (eD DX5_columnAt 2 rfl) rfl rfl (go_aload_n (eD DX5_columnAt 3 rfl) rfl rfl (go_getR (t := 18) (eD DX5_columnAt 4 rfl) fX5_15 (by decide) rfl ⟨rfl, rfl⟩ (go_alen (n := 14) (eD DX5_columnAt 5 rfl) (by decide) rfl (by decide) (?_))))
    by_cases h2 : x < 14
    · refine go_icmp_geF (tgt := 22) (eD DX5_columnAt 6 rfl) rfl (by omega) (by decide) (Int.not_le.mpr h2) ?_
      simp only [if_neg h1, if_pos h2]
      exact go_aload_n (eD DX5_columnAt 7 rfl) rfl rfl (go_getR (t := 18) (eD DX5_columnAt 8 rfl) fX5_15 (by decide) rfl ⟨rfl, rfl⟩ (go_iload_n (eD DX5_columnAt 9 rfl) rfl rfl (go_iald (n := 14) (eD DX5_columnAt 10 rfl) (by decide) rfl (by omega) (go_goto (tgt := 23) (eD DX5_columnAt 11 rfl) rfl (go_iret (eD DX5_columnAt 13 rfl) rfl)))))
    · refine go_icmp_geT (tgt := 22) (eD DX5_columnAt 6 rfl) rfl (by omega) (by decide) (Int.not_lt.mp h2) ?_
      simp only [if_neg h1, if_neg h2]
      exact go_iconst (eD DX5_columnAt 12 rfl) (go_iret (eD DX5_columnAt 13 rfl) rfl)
def rX5_rowTime (w : eW) (px y : Int) : Int := if y < 0 then 0 else (if y < (w 2 1) then (if ((px * 10) + y) < 0 then 0 else (if ((px * 10) + y) < 570 then (w 19 ((px * 10) + y)) else 0)) else 0)
set_option maxRecDepth 20000 in
theorem zX5_rowTime (w : eW) (px y : Int) (hpx : eI px) (hy : eI y) (hB : HB w) (hp : 0 ≤ px ∧ px ≤ 56) : Cal mX5_rowTime [eR 16, (0, px), (0, y)] w (some (0, rX5_rowTime w px y)) w := by
  obtain ⟨⟨b1, b2, b3, b4, b5, b6⟩, b7, b8, b9⟩ := id hB
  unfold rX5_rowTime
  refine Cal.of (by decide +kernel) (Nat.le_of_ble_eq_true rfl) ?_
  show Go _ 0 [(0, eR 16), (1, (0, px)), (2, (0, y))] [] _ _ _
  refine go_iload_n (eD DX5_rowTime 0 rfl) rfl rfl (go_bipush (eD DX5_rowTime 1 rfl) (by decide) (go_imul (eD DX5_rowTime 2 rfl) (go_iload_n (eD DX5_rowTime 3 rfl) rfl rfl (go_iadd (eD DX5_rowTime 4 rfl) (go_istore_n (eD DX5_rowTime 5 rfl) rfl (by decide) (go_iload_n (eD DX5_rowTime 6 rfl) rfl rfl (?_)))))))
  by_cases h1 : y < 0
  · refine go_if_ltT (tgt := 44) (eD DX5_rowTime 7 rfl) rfl (by omega) h1 ?_
    simp only [if_pos h1]
    exact go_iconst (eD DX5_rowTime 25 rfl) (go_iret (eD DX5_rowTime 26 rfl) rfl)
  · refine go_if_ltF (tgt := 44) (eD DX5_rowTime 7 rfl) rfl (by omega) h1 ?_
    refine go_iload_n (eD DX5_rowTime 8 rfl) rfl rfl (go_aload_n (eD DX5_rowTime 9 rfl) rfl rfl (go_getR (t := 2) (eD DX5_rowTime 10 rfl) fX5_45 (by decide) rfl ⟨rfl, rfl⟩ (go_getI (kz := 1) (eD DX5_rowTime 11 rfl) fX5_62 (by decide) rfl rfl rfl (?_))))
    by_cases h2 : y < (w 2 1)
    · refine go_icmp_geF (tgt := 44) (eD DX5_rowTime 12 rfl) rfl (by omega) (show eI (w 2 1) from by omega) (Int.not_le.mpr h2) ?_
      refine go_iload_n (eD DX5_rowTime 13 rfl) rfl rfl (?_)
      by_cases h3 : ((px * 10) + y) < 0
      · refine go_if_ltT (tgt := 44) (eD DX5_rowTime 14 rfl) rfl (by omega) h3 ?_
        simp only [if_neg h1, if_pos h2, if_pos h3]
        exact go_iconst (eD DX5_rowTime 25 rfl) (go_iret (eD DX5_rowTime 26 rfl) rfl)
      · refine go_if_ltF (tgt := 44) (eD DX5_rowTime 14 rfl) rfl (by omega) h3 ?_
        refine go_iload_n (eD DX5_rowTime 15 rfl) rfl rfl (go_aload_n (eD DX5_rowTime 16 rfl) rfl rfl (go_getR (t := 19) (eD DX5_rowTime 17 rfl) fX5_18 (by decide) rfl ⟨rfl, rfl⟩ (go_alen (n := 570) (eD DX5_rowTime 18 rfl) (by decide) rfl (by decide) (?_))))
        by_cases h4 : ((px * 10) + y) < 570
        · refine go_icmp_geF (tgt := 44) (eD DX5_rowTime 19 rfl) rfl (by omega) (by decide) (Int.not_le.mpr h4) ?_
          simp only [if_neg h1, if_pos h2, if_neg h3, if_pos h4]
          exact go_aload_n (eD DX5_rowTime 20 rfl) rfl rfl (go_getR (t := 19) (eD DX5_rowTime 21 rfl) fX5_18 (by decide) rfl ⟨rfl, rfl⟩ (go_iload_n (eD DX5_rowTime 22 rfl) rfl rfl (go_iald (n := 570) (eD DX5_rowTime 23 rfl) (by decide) rfl (by omega) (go_goto (tgt := 45) (eD DX5_rowTime 24 rfl) rfl (go_iret (eD DX5_rowTime 26 rfl) rfl)))))
        · refine go_icmp_geT (tgt := 44) (eD DX5_rowTime 19 rfl) rfl (by omega) (by decide) (Int.not_lt.mp h4) ?_
          simp only [if_neg h1, if_pos h2, if_neg h3, if_neg h4]
          exact go_iconst (eD DX5_rowTime 25 rfl) (go_iret (eD DX5_rowTime 26 rfl) rfl)
    · refine go_icmp_geT (tgt := 44) (eD DX5_rowTime 12 rfl) rfl (by omega) (show eI (w 2 1) from by omega) (Int.not_lt.mp h2) ?_
      simp only [if_neg h1, if_neg h2]
      exact go_iconst (eD DX5_rowTime 25 rfl) (go_iret (eD DX5_rowTime 26 rfl) rfl)
def rX5_columnTime (w : eW) (x : Int) : Int := if x < 0 then 0 else (if x < 14 then (w 20 x) else 0)
set_option maxRecDepth 20000 in
theorem zX5_columnTime (w : eW) (x : Int) (hx : eI x) : Cal mX5_columnTime [eR 16, (0, x)] w (some (0, rX5_columnTime w x)) w := by
  unfold rX5_columnTime
  refine Cal.of (by decide +kernel) (Nat.le_of_ble_eq_true rfl) ?_
  show Go _ 0 [(0, eR 16), (1, (0, x))] [] _ _ _
  refine go_iload_n (eD DX5_columnTime 0 rfl) rfl rfl (?_)
  by_cases h1 : x < 0
  · refine go_if_ltT (tgt := 22) (eD DX5_columnTime 1 rfl) rfl (by omega) h1 ?_
    simp only [if_pos h1]
    exact go_iconst (eD DX5_columnTime 12 rfl) (go_iret (eD DX5_columnTime 13 rfl) rfl)
  · refine go_if_ltF (tgt := 22) (eD DX5_columnTime 1 rfl) rfl (by omega) h1 ?_
    refine go_iload_n (eD DX5_columnTime 2 rfl) rfl rfl (go_aload_n (eD DX5_columnTime 3 rfl) rfl rfl (go_getR (t := 20) (eD DX5_columnTime 4 rfl) fX5_21 (by decide) rfl ⟨rfl, rfl⟩ (go_alen (n := 14) (eD DX5_columnTime 5 rfl) (by decide) rfl (by decide) (?_))))
    by_cases h2 : x < 14
    · refine go_icmp_geF (tgt := 22) (eD DX5_columnTime 6 rfl) rfl (by omega) (by decide) (Int.not_le.mpr h2) ?_
      simp only [if_neg h1, if_pos h2]
      exact go_aload_n (eD DX5_columnTime 7 rfl) rfl rfl (go_getR (t := 20) (eD DX5_columnTime 8 rfl) fX5_21 (by decide) rfl ⟨rfl, rfl⟩ (go_iload_n (eD DX5_columnTime 9 rfl) rfl rfl (go_iald (n := 14) (eD DX5_columnTime 10 rfl) (by decide) rfl (by omega) (go_goto (tgt := 23) (eD DX5_columnTime 11 rfl) rfl (go_iret (eD DX5_columnTime 13 rfl) rfl)))))
    · refine go_icmp_geT (tgt := 22) (eD DX5_columnTime 6 rfl) rfl (by omega) (by decide) (Int.not_lt.mp h2) ?_
      simp only [if_neg h1, if_neg h2]
      exact go_iconst (eD DX5_columnTime 12 rfl) (go_iret (eD DX5_columnTime 13 rfl) rfl)
theorem y_X5_rowTime (w : eW) (px y : Int) (hy : eI y) (hp : 0 ≤ px ∧ px ≤ 56) (hH : HH w) (hR : RR w px) : Cal mX5_rowTime [eR 16, (0, px), (0, y)] w (some (0, rT w px y)) w := by
  refine Cal.as (zX5_rowTime w px y (by omega) hy hH.1 hp) ?_ rfl
  obtain ⟨⟨b1, b2, b3, b4, b5, b6⟩, b7, b8, b9⟩ := id hH.1
  unfold rX5_rowTime
  congr 2
  by_cases hin : 0 ≤ y ∧ y < w 2 1
  · rw [← hR y hin.1 hin.2]
    (repeat' split) <;> first | rfl | omega
  · rw [rT_out hH hp (by omega)]
    (repeat' split) <;> first | rfl | omega
theorem y_X5_columnTime (w : eW) (x : Int) (hx : eI x) : Cal mX5_columnTime [eR 16, (0, x)] w (some (0, cT w x)) w := zX5_columnTime w x hx
set_option maxHeartbeats 4000000 in
set_option maxRecDepth 20000 in
theorem tX5_readyHouse_0 {r : Option eV} {w9 : eW} (w : eW) (hz : eI (w 16 9)) (k1 : (w 16 9) = 0 → Go mX5_readyHouse 15 [(0, eR 16), (1, (0, 0))] [] (eU w 16 9 1) r w9) (k2 : ¬ ((w 16 9) = 0) → r = none ∧ w9 = w) : Go mX5_readyHouse 0 [(0, eR 16)] [] w r w9 := by
  refine go_aload_n (eD DX5_readyHouse 0 rfl) rfl rfl (go_getI (kz := 9) (eD DX5_readyHouse 1 rfl) fX5_35 (by decide) rfl rfl rfl (?_))
  by_cases h1 : (w 16 9) = 0
  · refine go_if_eqT (tgt := 8) (eD DX5_readyHouse 2 rfl) rfl (show eI (w 16 9) from by omega) h1 ?_
    exact go_aload_n (eD DX5_readyHouse 4 rfl) rfl rfl (go_iconst (eD DX5_readyHouse 5 rfl) (go_putZ (kz := 9) (eD DX5_readyHouse 6 rfl) fX5_35 (by decide) rfl rfl (fun q h => by cases h; exact ⟨rfl, rfl⟩) rfl (by decide) (go_iconst (eD DX5_readyHouse 7 rfl) (go_istore_n (eD DX5_readyHouse 8 rfl) rfl (by decide) (Go.pick [1, 0] rfl (k1 h1))))))
  · refine go_if_eqF (tgt := 8) (eD DX5_readyHouse 2 rfl) rfl (show eI (w 16 9) from by omega) h1 ?_
    rw [(k2 h1).1, (k2 h1).2]
    exact go_vret (eD DX5_readyHouse 3 rfl) rfl
set_option maxHeartbeats 4000000 in
set_option maxRecDepth 20000 in
theorem tX5_readyHouse_15 {r : Option eV} {w9 : eW} (w : eW) (k : Int) (hk : 0 ≤ k ∧ k ≤ 4) (hp : 1 ≤ rX0_pace w k ∧ rX0_pace w k ≤ 9) (k1 : k < 4 → (rX0_pace w k) < 1 → Go mX5_readyHouse 15 [(0, eR 16), (1, (0, k + 1))] [] (eU w 17 k (eQt 1)) r w9) (k2 : k < 4 → ¬ ((rX0_pace w k) < 1) → (rX0_pace w k) < 10 → Go mX5_readyHouse 15 [(0, eR 16), (1, (0, k + 1))] [] (eU w 17 k (eQt (rX0_pace w k))) r w9) (k3 : k < 4 → ¬ ((rX0_pace w k) < 1) → ¬ ((rX0_pace w k) < 10) → Go mX5_readyHouse 15 [(0, eR 16), (1, (0, k + 1))] [] (eU w 17 k (eQt 1)) r w9) (k4 : ¬ (k < 4) → Go mX5_readyHouse 73 [(0, eR 16), (1, (0, 0))] [] w r w9) : Go mX5_readyHouse 15 [(0, eR 16), (1, (0, k))] [] w r w9 := by
  refine go_iload_n (eD DX5_readyHouse 9 rfl) rfl rfl (go_aload_n (eD DX5_readyHouse 10 rfl) rfl rfl (go_getR (t := 17) (eD DX5_readyHouse 11 rfl) fX5_9 (by decide) rfl ⟨rfl, rfl⟩ (go_alen (n := 4) (eD DX5_readyHouse 12 rfl) (by decide) rfl (by decide) (?_))))
  by_cases h1 : k < 4
  · refine go_icmp_geF (tgt := 71) (eD DX5_readyHouse 13 rfl) rfl (by omega) (by decide) (Int.not_le.mpr h1) ?_
    refine go_aload_n (eD DX5_readyHouse 14 rfl) rfl rfl (go_getR (t := 2) (eD DX5_readyHouse 15 rfl) fX5_45 (by decide) rfl ⟨rfl, rfl⟩ (go_iload_n (eD DX5_readyHouse 16 rfl) rfl rfl (go_callV (ci := 0) [(0, k)] (eD DX5_readyHouse 17 rfl) ⟨eMem 3 151 rfl rfl, sX0_pace⟩ ⟨Nat.le_of_ble_eq_true rfl, Nat.le_of_ble_eq_true rfl⟩ (by decide) ⟨rfl, by decide, _, rfl, rfl⟩ rfl rfl (Nat.le_of_ble_eq_true rfl) (zX0_pace w k (by omega)) (go_istore_n (eD DX5_readyHouse 18 rfl) rfl (by decide) (go_aload_n (eD DX5_readyHouse 19 rfl) rfl rfl (go_getR (t := 17) (eD DX5_readyHouse 20 rfl) fX5_9 (by decide) rfl ⟨rfl, rfl⟩ (go_iload_n (eD DX5_readyHouse 21 rfl) rfl rfl (go_iload_n (eD DX5_readyHouse 22 rfl) rfl rfl (go_iconst (eD DX5_readyHouse 23 rfl) (?_))))))))))
    by_cases h2 : (rX0_pace w k) < 1
    · refine go_icmp_ltT (tgt := 59) (eD DX5_readyHouse 24 rfl) rfl (show eI (rX0_pace w k) from by omega) (by decide) h2 ?_
      exact go_getQ (eD DX5_readyHouse 33 rfl) (eMem 3 152 rfl rfl) (go_iconst (eD DX5_readyHouse 34 rfl) (go_qald (eD DX5_readyHouse 35 rfl) (show (0 : Int) ≤ 1 ∧ (1 : Int) < 10 from by decide) (go_iast (n := 4) (eD DX5_readyHouse 36 rfl) (by decide) rfl (by omega) (go_iinc (eD DX5_readyHouse 37 rfl) rfl (by decide) (go_goto (tgt := 15) (eD DX5_readyHouse 38 rfl) rfl (Go.pick [2, 0] rfl (k1 h1 h2)))))))
    · refine go_icmp_ltF (tgt := 59) (eD DX5_readyHouse 24 rfl) rfl (show eI (rX0_pace w k) from by omega) (by decide) h2 ?_
      refine go_iload_n (eD DX5_readyHouse 25 rfl) rfl rfl (go_getQ (eD DX5_readyHouse 26 rfl) (eMem 3 152 rfl rfl) (go_qlen (eD DX5_readyHouse 27 rfl) (?_)))
      by_cases h3 : (rX0_pace w k) < 10
      · refine go_icmp_geF (tgt := 59) (eD DX5_readyHouse 28 rfl) rfl (show eI (rX0_pace w k) from by omega) (by decide) (Int.not_le.mpr h3) ?_
        exact go_getQ (eD DX5_readyHouse 29 rfl) (eMem 3 152 rfl rfl) (go_iload_n (eD DX5_readyHouse 30 rfl) rfl rfl (go_qald (eD DX5_readyHouse 31 rfl) (show 0 ≤ (rX0_pace w k) ∧ (rX0_pace w k) < 10 from by omega) (go_goto (tgt := 64) (eD DX5_readyHouse 32 rfl) rfl (go_iast (n := 4) (eD DX5_readyHouse 36 rfl) (by decide) rfl (by omega) (go_iinc (eD DX5_readyHouse 37 rfl) rfl (by decide) (go_goto (tgt := 15) (eD DX5_readyHouse 38 rfl) rfl (Go.pick [2, 0] rfl (k2 h1 h2 h3))))))))
      · refine go_icmp_geT (tgt := 59) (eD DX5_readyHouse 28 rfl) rfl (show eI (rX0_pace w k) from by omega) (by decide) (Int.not_lt.mp h3) ?_
        exact go_getQ (eD DX5_readyHouse 33 rfl) (eMem 3 152 rfl rfl) (go_iconst (eD DX5_readyHouse 34 rfl) (go_qald (eD DX5_readyHouse 35 rfl) (show (0 : Int) ≤ 1 ∧ (1 : Int) < 10 from by decide) (go_iast (n := 4) (eD DX5_readyHouse 36 rfl) (by decide) rfl (by omega) (go_iinc (eD DX5_readyHouse 37 rfl) rfl (by decide) (go_goto (tgt := 15) (eD DX5_readyHouse 38 rfl) rfl (Go.pick [2, 0] rfl (k3 h1 h2 h3)))))))
  · refine go_icmp_geT (tgt := 71) (eD DX5_readyHouse 13 rfl) rfl (by omega) (by decide) (Int.not_lt.mp h1) ?_
    exact go_iconst (eD DX5_readyHouse 39 rfl) (go_istore_n (eD DX5_readyHouse 40 rfl) rfl (by decide) (Go.pick [1, 0] rfl (k4 h1)))
set_option maxHeartbeats 4000000 in
set_option maxRecDepth 20000 in
theorem tX5_readyHouse_73 {r : Option eV} {w9 : eW} (w : eW) (k : Int) (hk : 0 ≤ k ∧ k ≤ 14) (k1 : k < 14 → Go mX5_readyHouse 86 [(0, eR 16), (1, (0, k)), (2, (0, 0)), (3, (0, 0))] [] w r w9) (k2 : ¬ (k < 14) → r = none ∧ w9 = w) : Go mX5_readyHouse 73 [(0, eR 16), (1, (0, k))] [] w r w9 := by
  refine go_iload_n (eD DX5_readyHouse 41 rfl) rfl rfl (go_aload_n (eD DX5_readyHouse 42 rfl) rfl rfl (go_getR (t := 18) (eD DX5_readyHouse 43 rfl) fX5_15 (by decide) rfl ⟨rfl, rfl⟩ (go_alen (n := 14) (eD DX5_readyHouse 44 rfl) (by decide) rfl (by decide) (?_))))
  by_cases h1 : k < 14
  · refine go_icmp_geF (tgt := 133) (eD DX5_readyHouse 45 rfl) rfl (by omega) (by decide) (Int.not_le.mpr h1) ?_
    exact go_iconst (eD DX5_readyHouse 46 rfl) (go_istore_n (eD DX5_readyHouse 47 rfl) rfl (by decide) (go_iconst (eD DX5_readyHouse 48 rfl) (go_istore_n (eD DX5_readyHouse 49 rfl) rfl (by decide) (Go.pick [2, 3, 1, 0] rfl (k1 h1)))))
  · refine go_icmp_geT (tgt := 133) (eD DX5_readyHouse 45 rfl) rfl (by omega) (by decide) (Int.not_lt.mp h1) ?_
    rw [(k2 h1).1, (k2 h1).2]
    exact go_vret (eD DX5_readyHouse 77 rfl) rfl
set_option maxHeartbeats 4000000 in
set_option maxRecDepth 20000 in
theorem tX5_readyHouse_86 {r : Option eV} {w9 : eW} (w : eW) (k bits y : Int) (hB : HB w) (hk : 0 ≤ k ∧ k < 14) (hy : 0 ≤ y ∧ y ≤ 10) (hr : 0 ≤ rowAt w y ∧ rowAt w y < 16384) (k1 : y < (w 2 1) → Go mX5_readyHouse 86 [(0, eR 16), (1, (0, k)), (2, (0, eOr bits ((eAnd ((rowAt w y) / 2 ^ (k).toNat) 1) * 2 ^ (y).toNat))), (3, (0, y + 1))] [] w r w9) (k2 : ¬ (y < (w 2 1)) → Go mX5_readyHouse 73 [(0, eR 16), (1, (0, k + 1))] [] (eU w 18 k bits) r w9) : Go mX5_readyHouse 86 [(0, eR 16), (1, (0, k)), (2, (0, bits)), (3, (0, y))] [] w r w9 := by
  obtain ⟨⟨b1, b2, b3, b4, b5, b6⟩, b7, b8, b9⟩ := id hB
  refine go_iload_n (eD DX5_readyHouse 50 rfl) rfl rfl (go_aload_n (eD DX5_readyHouse 51 rfl) rfl rfl (go_getR (t := 2) (eD DX5_readyHouse 52 rfl) fX5_45 (by decide) rfl ⟨rfl, rfl⟩ (go_getI (kz := 1) (eD DX5_readyHouse 53 rfl) fX5_62 (by decide) rfl rfl rfl (?_))))
  by_cases h1 : y < (w 2 1)
  · refine go_icmp_geF (tgt := 120) (eD DX5_readyHouse 54 rfl) rfl (by omega) (show eI (w 2 1) from by omega) (Int.not_le.mpr h1) ?_
    exact go_iload_n (eD DX5_readyHouse 55 rfl) rfl rfl (go_aload_n (eD DX5_readyHouse 56 rfl) rfl rfl (go_getR (t := 2) (eD DX5_readyHouse 57 rfl) fX5_45 (by decide) rfl ⟨rfl, rfl⟩ (go_iload_n (eD DX5_readyHouse 58 rfl) rfl rfl (go_callV (ci := 0) [(0, y)] (eD DX5_readyHouse 59 rfl) ⟨eMem 3 154 rfl rfl, sX0_lineAt⟩ ⟨Nat.le_of_ble_eq_true rfl, Nat.le_of_ble_eq_true rfl⟩ (by decide) ⟨rfl, by decide, _, rfl, rfl⟩ rfl rfl (Nat.le_of_ble_eq_true rfl) (y_X0_lineAt w y (by omega) hB) (go_iload_n (eD DX5_readyHouse 60 rfl) rfl rfl (go_ishr (eD DX5_readyHouse 61 rfl) (show eI (rowAt w y) from by omega) (by omega) (go_iconst (eD DX5_readyHouse 62 rfl) (go_iand (eD DX5_readyHouse 63 rfl) (go_iload_n (eD DX5_readyHouse 64 rfl) rfl rfl (go_ishl (eD DX5_readyHouse 65 rfl) (by omega) (go_ior (eD DX5_readyHouse 66 rfl) (go_istore_n (eD DX5_readyHouse 67 rfl) rfl (by decide) (go_iinc (eD DX5_readyHouse 68 rfl) rfl (by decide) (go_goto (tgt := 86) (eD DX5_readyHouse 69 rfl) rfl (Go.pick [2, 3, 1, 0] rfl (k1 h1))))))))))))))))
  · refine go_icmp_geT (tgt := 120) (eD DX5_readyHouse 54 rfl) rfl (by omega) (show eI (w 2 1) from by omega) (Int.not_lt.mp h1) ?_
    exact go_aload_n (eD DX5_readyHouse 70 rfl) rfl rfl (go_getR (t := 18) (eD DX5_readyHouse 71 rfl) fX5_15 (by decide) rfl ⟨rfl, rfl⟩ (go_iload_n (eD DX5_readyHouse 72 rfl) rfl rfl (go_iload_n (eD DX5_readyHouse 73 rfl) rfl rfl (go_iast (n := 14) (eD DX5_readyHouse 74 rfl) (by decide) rfl (by omega) (go_iinc (eD DX5_readyHouse 75 rfl) rfl (by decide) (go_goto (tgt := 73) (eD DX5_readyHouse 76 rfl) rfl (Go.pick [1, 0] rfl (k2 h1))))))))
set_option maxHeartbeats 4000000 in
set_option maxRecDepth 20000 in
theorem tX5_readyRows_0 {r : Option eV} {w9 : eW} (w : eW) (px : Int) (k1 : Go mX5_readyRows 2 [(0, eR 16), (1, (0, px)), (2, (0, 0))] [] w r w9) : Go mX5_readyRows 0 [(0, eR 16), (1, (0, px))] [] w r w9 := by
  exact go_iconst (eD DX5_readyRows 0 rfl) (go_istore_n (eD DX5_readyRows 1 rfl) rfl (by decide) (Go.pick [1, 2, 0] rfl (k1)))
set_option maxHeartbeats 4000000 in
set_option maxRecDepth 20000 in
theorem tX5_readyRows_2 {r : Option eV} {w9 : eW} (w : eW) (px y : Int) (hB : HB w) (hp : 0 ≤ px ∧ px ≤ 56) (hy : 0 ≤ y ∧ y ≤ 10) (hr : 0 ≤ rowAt w y ∧ rowAt w y < 16384) (h1 : 0 ≤ w 17 1 ∧ w 17 1 ≤ 2520) (h3 : 0 ≤ w 17 3 ∧ w 17 3 ≤ 2520) (k1 : y < (w 2 1) → ((px * 10) + y) < 0 → Go mX5_readyRows 2 [(0, eR 16), (1, (0, px)), (2, (0, y + 1))] [] w r w9) (k2 : y < (w 2 1) → ¬ (((px * 10) + y) < 0) → ((px * 10) + y) < 570 → Go mX5_readyRows 2 [(0, eR 16), (1, (0, px)), (2, (0, y + 1))] [] (eU w 19 ((px * 10) + y) (nT (rowAt w y) px (w 17 1) (w 17 3))) r w9) (k3 : y < (w 2 1) → ¬ (((px * 10) + y) < 0) → ¬ (((px * 10) + y) < 570) → Go mX5_readyRows 2 [(0, eR 16), (1, (0, px)), (2, (0, y + 1))] [] w r w9) (k4 : ¬ (y < (w 2 1)) → r = none ∧ w9 = w) : Go mX5_readyRows 2 [(0, eR 16), (1, (0, px)), (2, (0, y))] [] w r w9 := by
  obtain ⟨⟨b1, b2, b3, b4, b5, b6⟩, b7, b8, b9⟩ := id hB
  refine go_iload_n (eD DX5_readyRows 2 rfl) rfl rfl (go_aload_n (eD DX5_readyRows 3 rfl) rfl rfl (go_getR (t := 2) (eD DX5_readyRows 4 rfl) fX5_45 (by decide) rfl ⟨rfl, rfl⟩ (go_getI (kz := 1) (eD DX5_readyRows 5 rfl) fX5_62 (by decide) rfl rfl rfl (?_))))
  by_cases h1 : y < (w 2 1)
  · refine go_icmp_geF (tgt := 67) (eD DX5_readyRows 6 rfl) rfl (by omega) (show eI (w 2 1) from by omega) (Int.not_le.mpr h1) ?_
    refine go_iload_n (eD DX5_readyRows 7 rfl) rfl rfl (go_bipush (eD DX5_readyRows 8 rfl) (by decide) (go_imul (eD DX5_readyRows 9 rfl) (go_iload_n (eD DX5_readyRows 10 rfl) rfl rfl (go_iadd (eD DX5_readyRows 11 rfl) (go_istore_n (eD DX5_readyRows 12 rfl) rfl (by decide) (go_iload_n (eD DX5_readyRows 13 rfl) rfl rfl (?_)))))))
    by_cases h2 : ((px * 10) + y) < 0
    · refine go_if_ltT (tgt := 61) (eD DX5_readyRows 14 rfl) rfl (by omega) h2 ?_
      exact go_iinc (eD DX5_readyRows 36 rfl) rfl (by decide) (go_goto (tgt := 2) (eD DX5_readyRows 37 rfl) rfl (Go.pick [2, 3, 0] rfl (k1 h1 h2)))
    · refine go_if_ltF (tgt := 61) (eD DX5_readyRows 14 rfl) rfl (by omega) h2 ?_
      refine go_iload_n (eD DX5_readyRows 15 rfl) rfl rfl (go_aload_n (eD DX5_readyRows 16 rfl) rfl rfl (go_getR (t := 19) (eD DX5_readyRows 17 rfl) fX5_18 (by decide) rfl ⟨rfl, rfl⟩ (go_alen (n := 570) (eD DX5_readyRows 18 rfl) (by decide) rfl (by decide) (?_))))
      by_cases h3 : ((px * 10) + y) < 570
      · refine go_icmp_geF (tgt := 61) (eD DX5_readyRows 19 rfl) rfl (by omega) (by decide) (Int.not_le.mpr h3) ?_
        refine go_aload_n (eD DX5_readyRows 20 rfl) rfl rfl (go_getR (t := 19) (eD DX5_readyRows 21 rfl) fX5_18 (by decide) rfl ⟨rfl, rfl⟩ (go_iload_n (eD DX5_readyRows 22 rfl) rfl rfl (go_aload_n (eD DX5_readyRows 23 rfl) rfl rfl (go_getR (t := 2) (eD DX5_readyRows 24 rfl) fX5_45 (by decide) rfl ⟨rfl, rfl⟩ (go_iload_n (eD DX5_readyRows 25 rfl) rfl rfl (go_callV (ci := 0) [(0, y)] (eD DX5_readyRows 26 rfl) ⟨eMem 3 154 rfl rfl, sX0_lineAt⟩ ⟨Nat.le_of_ble_eq_true rfl, Nat.le_of_ble_eq_true rfl⟩ (by decide) ⟨rfl, by decide, _, rfl, rfl⟩ rfl rfl (Nat.le_of_ble_eq_true rfl) (y_X0_lineAt w y (by omega) hB) (go_iload_n (eD DX5_readyRows 27 rfl) rfl rfl (go_aload_n (eD DX5_readyRows 28 rfl) rfl rfl (go_iconst (eD DX5_readyRows 29 rfl) (?_))))))))))
        refine go_callV (ci := 5) [(0, 1)] (eD DX5_readyRows 30 rfl) ⟨eMem 3 159 rfl rfl, sX5_timeOf⟩ ⟨Nat.le_of_ble_eq_true rfl, Nat.le_of_ble_eq_true rfl⟩ (by decide) ⟨rfl, by decide, _, rfl, rfl⟩ rfl rfl (Nat.le_of_ble_eq_true rfl) (Cal.as (zX5_timeOf w 1 (by decide) ) (r2 := some (0, w 17 1)) (w2 := w) (by (try simp only [rX5_timeOf, if_pos h1, if_neg h2, if_pos h3]) <;> (try rfl)) rfl) (?_)
        refine go_aload_n (eD DX5_readyRows 31 rfl) rfl rfl (go_iconst (eD DX5_readyRows 32 rfl) (?_))
        refine go_callV (ci := 5) [(0, 3)] (eD DX5_readyRows 33 rfl) ⟨eMem 3 159 rfl rfl, sX5_timeOf⟩ ⟨Nat.le_of_ble_eq_true rfl, Nat.le_of_ble_eq_true rfl⟩ (by decide) ⟨rfl, by decide, _, rfl, rfl⟩ rfl rfl (Nat.le_of_ble_eq_true rfl) (Cal.as (zX5_timeOf w 3 (by decide) ) (r2 := some (0, w 17 3)) (w2 := w) (by (try simp only [rX5_timeOf, if_pos h1, if_neg h2, if_pos h3]) <;> (try rfl)) rfl) (?_)
        exact go_callS [(0, rowAt w y), (0, px), (0, w 17 1), (0, w 17 3)] (eD DX5_readyRows 34 rfl) ⟨eMem 3 163 rfl rfl, sX5_nearestTime⟩ ⟨Nat.le_of_ble_eq_true rfl, Nat.le_of_ble_eq_true rfl⟩ rfl rfl (Nat.le_of_ble_eq_true rfl) (y_nT w (rowAt w y) px (w 17 1) (w 17 3) (by omega) (by omega) (by omega) (by omega)) (go_iast (n := 570) (eD DX5_readyRows 35 rfl) (by decide) rfl (by omega) (go_iinc (eD DX5_readyRows 36 rfl) rfl (by decide) (go_goto (tgt := 2) (eD DX5_readyRows 37 rfl) rfl (Go.pick [2, 3, 0] rfl (k2 h1 h2 h3)))))
      · refine go_icmp_geT (tgt := 61) (eD DX5_readyRows 19 rfl) rfl (by omega) (by decide) (Int.not_lt.mp h3) ?_
        exact go_iinc (eD DX5_readyRows 36 rfl) rfl (by decide) (go_goto (tgt := 2) (eD DX5_readyRows 37 rfl) rfl (Go.pick [2, 3, 0] rfl (k3 h1 h2 h3)))
  · refine go_icmp_geT (tgt := 67) (eD DX5_readyRows 6 rfl) rfl (by omega) (show eI (w 2 1) from by omega) (Int.not_lt.mp h1) ?_
    rw [(k4 h1).1, (k4 h1).2]
    exact go_vret (eD DX5_readyRows 38 rfl) rfl
theorem y_X5_columnAt (w : eW) (x : Int) (hx : 0 ≤ x ∧ x < 14) : Cal mX5_columnAt [eR 16, (0, x)] w (some (0, w 18 x)) w := by
  refine Cal.as (zX5_columnAt w x (by omega)) ?_ rfl
  unfold rX5_columnAt
  rw [if_neg (by omega), if_pos hx.2]
set_option maxHeartbeats 4000000 in
set_option maxRecDepth 20000 in
theorem tX5_readyColumns_0 {r : Option eV} {w9 : eW} (w : eW) (py : Int) (k1 : Go mX5_readyColumns 2 [(0, eR 16), (1, (0, py)), (2, (0, 0))] [] w r w9) : Go mX5_readyColumns 0 [(0, eR 16), (1, (0, py))] [] w r w9 := by
  exact go_iconst (eD DX5_readyColumns 0 rfl) (go_istore_n (eD DX5_readyColumns 1 rfl) rfl (by decide) (Go.pick [1, 2, 0] rfl (k1)))
set_option maxHeartbeats 4000000 in
set_option maxRecDepth 20000 in
theorem tX5_readyColumns_2 {r : Option eV} {w9 : eW} (w : eW) (py x : Int) (hp : 0 ≤ py ∧ py ≤ 56) (hx : 0 ≤ x ∧ x ≤ 14) (hr : x < 14 → 0 ≤ w 18 x ∧ w 18 x < 16384) (h1 : 0 ≤ w 17 2 ∧ w 17 2 ≤ 2520) (h3 : 0 ≤ w 17 0 ∧ w 17 0 ≤ 2520) (k1 : x < 14 → Go mX5_readyColumns 2 [(0, eR 16), (1, (0, py)), (2, (0, x + 1))] [] (eU w 20 x (nT (w 18 x) py (w 17 2) (w 17 0))) r w9) (k2 : ¬ (x < 14) → r = none ∧ w9 = w) : Go mX5_readyColumns 2 [(0, eR 16), (1, (0, py)), (2, (0, x))] [] w r w9 := by
  refine go_iload_n (eD DX5_readyColumns 2 rfl) rfl rfl (go_aload_n (eD DX5_readyColumns 3 rfl) rfl rfl (go_getR (t := 20) (eD DX5_readyColumns 4 rfl) fX5_21 (by decide) rfl ⟨rfl, rfl⟩ (go_alen (n := 14) (eD DX5_readyColumns 5 rfl) (by decide) rfl (by decide) (?_))))
  by_cases h1 : x < 14
  · refine go_icmp_geF (tgt := 42) (eD DX5_readyColumns 6 rfl) rfl (by omega) (by decide) (Int.not_le.mpr h1) ?_
    refine go_aload_n (eD DX5_readyColumns 7 rfl) rfl rfl (go_getR (t := 20) (eD DX5_readyColumns 8 rfl) fX5_21 (by decide) rfl ⟨rfl, rfl⟩ (go_iload_n (eD DX5_readyColumns 9 rfl) rfl rfl (go_aload_n (eD DX5_readyColumns 10 rfl) rfl rfl (go_iload_n (eD DX5_readyColumns 11 rfl) rfl rfl (go_callV (ci := 5) [(0, x)] (eD DX5_readyColumns 12 rfl) ⟨eMem 3 176 rfl rfl, sX5_columnAt⟩ ⟨Nat.le_of_ble_eq_true rfl, Nat.le_of_ble_eq_true rfl⟩ (by decide) ⟨rfl, by decide, _, rfl, rfl⟩ rfl rfl (Nat.le_of_ble_eq_true rfl) (y_X5_columnAt w x (by omega)) (go_iload_n (eD DX5_readyColumns 13 rfl) rfl rfl (go_aload_n (eD DX5_readyColumns 14 rfl) rfl rfl (go_iconst (eD DX5_readyColumns 15 rfl) (?_)))))))))
    refine go_callV (ci := 5) [(0, 2)] (eD DX5_readyColumns 16 rfl) ⟨eMem 3 159 rfl rfl, sX5_timeOf⟩ ⟨Nat.le_of_ble_eq_true rfl, Nat.le_of_ble_eq_true rfl⟩ (by decide) ⟨rfl, by decide, _, rfl, rfl⟩ rfl rfl (Nat.le_of_ble_eq_true rfl) (Cal.as (zX5_timeOf w 2 (by decide) ) (r2 := some (0, w 17 2)) (w2 := w) (by (try simp only [rX5_timeOf, if_pos h1]) <;> (try rfl)) rfl) (?_)
    refine go_aload_n (eD DX5_readyColumns 17 rfl) rfl rfl (go_iconst (eD DX5_readyColumns 18 rfl) (?_))
    refine go_callV (ci := 5) [(0, 0)] (eD DX5_readyColumns 19 rfl) ⟨eMem 3 159 rfl rfl, sX5_timeOf⟩ ⟨Nat.le_of_ble_eq_true rfl, Nat.le_of_ble_eq_true rfl⟩ (by decide) ⟨rfl, by decide, _, rfl, rfl⟩ rfl rfl (Nat.le_of_ble_eq_true rfl) (Cal.as (zX5_timeOf w 0 (by decide) ) (r2 := some (0, w 17 0)) (w2 := w) (by (try simp only [rX5_timeOf, if_pos h1]) <;> (try rfl)) rfl) (?_)
    exact go_callS [(0, w 18 x), (0, py), (0, w 17 2), (0, w 17 0)] (eD DX5_readyColumns 20 rfl) ⟨eMem 3 163 rfl rfl, sX5_nearestTime⟩ ⟨Nat.le_of_ble_eq_true rfl, Nat.le_of_ble_eq_true rfl⟩ rfl rfl (Nat.le_of_ble_eq_true rfl) (y_nT w (w 18 x) py (w 17 2) (w 17 0) (by omega) (by omega) (by omega) (by omega)) (go_iast (n := 14) (eD DX5_readyColumns 21 rfl) (by decide) rfl (by omega) (go_iinc (eD DX5_readyColumns 22 rfl) rfl (by decide) (go_goto (tgt := 2) (eD DX5_readyColumns 23 rfl) rfl (Go.pick [1, 2, 0] rfl (k1 h1)))))
  · refine go_icmp_geT (tgt := 42) (eD DX5_readyColumns 6 rfl) rfl (by omega) (by decide) (Int.not_lt.mp h1) ?_
    rw [(k2 h1).1, (k2 h1).2]
    exact go_vret (eD DX5_readyColumns 24 rfl) rfl
set_option maxHeartbeats 4000000 in
set_option maxRecDepth 20000 in
theorem tX5_leastReach_0 {r : Option eV} {w9 : eW} (w : eW) (px py : Int) (hB : HH w) (hR : RR w px) (hp : 0 ≤ px ∧ px ≤ 56 ∧ 0 ≤ py ∧ py ≤ 40) (k1 : (py % 4) = 0 → Go mX5_leastReach 43 [(0, eR 16), (1, (0, px)), (2, (0, py)), (3, (0, py / 4)), (5, (0, min (rT w px ((py / 4) - 1)) (rT w px (py / 4)))), (6, (0, ((py / 4) - 1) - 1))] [] w r w9) (k2 : ¬ ((py % 4) = 0) → Go mX5_leastReach 43 [(0, eR 16), (1, (0, px)), (2, (0, py)), (3, (0, py / 4)), (5, (0, min (rT w px (py / 4)) (rT w px (py / 4)))), (6, (0, (py / 4) - 1))] [] w r w9) : Go mX5_leastReach 0 [(0, eR 16), (1, (0, px)), (2, (0, py))] [] w r w9 := by
  obtain ⟨⟨⟨b1, b2, b3, b4, b5, b6⟩, b7, b8, b9⟩, b10, b11⟩ := id hB
  have := rT_b hB (px := px) (by omega) (py / 4)
  have := rT_b hB (px := px) (by omega) (py / 4 - 1)
  refine go_iload_n (eD DX5_leastReach 0 rfl) rfl rfl (go_iconst (eD DX5_leastReach 1 rfl) (go_idiv (eD DX5_leastReach 2 rfl) (by omega) (by decide) (by omega) (show (0 : Int) < 4 from by decide) (go_istore_n (eD DX5_leastReach 3 rfl) rfl (by decide) (go_iload_n (eD DX5_leastReach 4 rfl) rfl rfl (go_iconst (eD DX5_leastReach 5 rfl) (go_irem (eD DX5_leastReach 6 rfl) (by omega) (by decide) (by omega) (show (0 : Int) < 4 from by decide) (?_)))))))
  by_cases h1 : (py % 4) = 0
  · refine go_if_neF (tgt := 16) (eD DX5_leastReach 7 rfl) rfl (by omega) (not_not_intro h1) ?_
    exact go_iload_n (eD DX5_leastReach 8 rfl) rfl rfl (go_iconst (eD DX5_leastReach 9 rfl) (go_isub (eD DX5_leastReach 10 rfl) (go_goto (tgt := 17) (eD DX5_leastReach 11 rfl) rfl (go_istore (eD DX5_leastReach 13 rfl) (by decide) (go_aload_n (eD DX5_leastReach 14 rfl) rfl rfl (go_iload_n (eD DX5_leastReach 15 rfl) rfl rfl (go_iload (eD DX5_leastReach 16 rfl) rfl (go_callV (ci := 5) [(0, px), (0, (py / 4) - 1)] (eD DX5_leastReach 17 rfl) ⟨eMem 3 184 rfl rfl, sX5_rowTime⟩ ⟨Nat.le_of_ble_eq_true rfl, Nat.le_of_ble_eq_true rfl⟩ (by decide) ⟨rfl, by decide, _, rfl, rfl⟩ rfl rfl (Nat.le_of_ble_eq_true rfl) (y_X5_rowTime w px ((py / 4) - 1) (by omega) (by omega) hB hR) (go_aload_n (eD DX5_leastReach 18 rfl) rfl rfl (go_iload_n (eD DX5_leastReach 19 rfl) rfl rfl (go_iload_n (eD DX5_leastReach 20 rfl) rfl rfl (go_callV (ci := 5) [(0, px), (0, py / 4)] (eD DX5_leastReach 21 rfl) ⟨eMem 3 184 rfl rfl, sX5_rowTime⟩ ⟨Nat.le_of_ble_eq_true rfl, Nat.le_of_ble_eq_true rfl⟩ (by decide) ⟨rfl, by decide, _, rfl, rfl⟩ rfl rfl (Nat.le_of_ble_eq_true rfl) (y_X5_rowTime w px (py / 4) (by omega) (by omega) hB hR) (go_mmin (eD DX5_leastReach 22 rfl) (eMem 3 169 rfl rfl) ⟨Nat.le_of_ble_eq_true rfl, Nat.le_of_ble_eq_true rfl⟩ (show eI (rT w px ((py / 4) - 1)) from by omega) (show eI (rT w px (py / 4)) from by omega) (go_istore (eD DX5_leastReach 23 rfl) (by decide) (go_iload (eD DX5_leastReach 24 rfl) rfl (go_iconst (eD DX5_leastReach 25 rfl) (go_isub (eD DX5_leastReach 26 rfl) (go_istore (eD DX5_leastReach 27 rfl) (by decide) (Go.pick [4, 5, 6, 3, 1, 0] rfl (k1 h1))))))))))))))))))))
  · refine go_if_neT (tgt := 16) (eD DX5_leastReach 7 rfl) rfl (by omega) h1 ?_
    exact go_iload_n (eD DX5_leastReach 12 rfl) rfl rfl (go_istore (eD DX5_leastReach 13 rfl) (by decide) (go_aload_n (eD DX5_leastReach 14 rfl) rfl rfl (go_iload_n (eD DX5_leastReach 15 rfl) rfl rfl (go_iload (eD DX5_leastReach 16 rfl) rfl (go_callV (ci := 5) [(0, px), (0, py / 4)] (eD DX5_leastReach 17 rfl) ⟨eMem 3 184 rfl rfl, sX5_rowTime⟩ ⟨Nat.le_of_ble_eq_true rfl, Nat.le_of_ble_eq_true rfl⟩ (by decide) ⟨rfl, by decide, _, rfl, rfl⟩ rfl rfl (Nat.le_of_ble_eq_true rfl) (y_X5_rowTime w px (py / 4) (by omega) (by omega) hB hR) (go_aload_n (eD DX5_leastReach 18 rfl) rfl rfl (go_iload_n (eD DX5_leastReach 19 rfl) rfl rfl (go_iload_n (eD DX5_leastReach 20 rfl) rfl rfl (go_callV (ci := 5) [(0, px), (0, py / 4)] (eD DX5_leastReach 21 rfl) ⟨eMem 3 184 rfl rfl, sX5_rowTime⟩ ⟨Nat.le_of_ble_eq_true rfl, Nat.le_of_ble_eq_true rfl⟩ (by decide) ⟨rfl, by decide, _, rfl, rfl⟩ rfl rfl (Nat.le_of_ble_eq_true rfl) (y_X5_rowTime w px (py / 4) (by omega) (by omega) hB hR) (go_mmin (eD DX5_leastReach 22 rfl) (eMem 3 169 rfl rfl) ⟨Nat.le_of_ble_eq_true rfl, Nat.le_of_ble_eq_true rfl⟩ (show eI (rT w px (py / 4)) from by omega) (show eI (rT w px (py / 4)) from by omega) (go_istore (eD DX5_leastReach 23 rfl) (by decide) (go_iload (eD DX5_leastReach 24 rfl) rfl (go_iconst (eD DX5_leastReach 25 rfl) (go_isub (eD DX5_leastReach 26 rfl) (go_istore (eD DX5_leastReach 27 rfl) (by decide) (Go.pick [4, 5, 6, 3, 1, 0] rfl (k2 h1)))))))))))))))))
set_option maxHeartbeats 4000000 in
set_option maxRecDepth 20000 in
theorem tX5_leastReach_43 {r : Option eV} {w9 : eW} (w : eW) (px py south best y : Int) (hB : HH w) (hR : RR w px) (hp : 0 ≤ px ∧ px ≤ 56 ∧ 0 ≤ py ∧ py ≤ 40) (hy : -3 ≤ y ∧ y ≤ 11) (hb : eI best) (ht : eI ((py - 4 * (y + 1)) * w 17 0)) (k1 : y < (-1) → Go mX5_leastReach 105 [(0, eR 16), (1, (0, px)), (2, (0, py)), (5, (0, best)), (6, (0, south + 1))] [] w r w9) (k2 : ¬ (y < (-1)) → ((py - (4 * (y + 1))) * (w 17 0)) < best → Go mX5_leastReach 43 [(0, eR 16), (1, (0, px)), (2, (0, py)), (3, (0, south)), (5, (0, min best (max ((py - (4 * (y + 1))) * (w 17 0)) (rT w px y)))), (6, (0, y + (-1)))] [] w r w9) (k3 : ¬ (y < (-1)) → ¬ (((py - (4 * (y + 1))) * (w 17 0)) < best) → Go mX5_leastReach 105 [(0, eR 16), (1, (0, px)), (2, (0, py)), (5, (0, best)), (6, (0, south + 1))] [] w r w9) : Go mX5_leastReach 43 [(0, eR 16), (1, (0, px)), (2, (0, py)), (3, (0, south)), (5, (0, best)), (6, (0, y))] [] w r w9 := by
  obtain ⟨⟨⟨b1, b2, b3, b4, b5, b6⟩, b7, b8, b9⟩, b10, b11⟩ := id hB
  have := rT_b hB (px := px) (by omega) (y)
  refine go_iload (eD DX5_leastReach 28 rfl) rfl (go_iconst (eD DX5_leastReach 29 rfl) (?_))
  by_cases h1 : y < (-1)
  · refine go_icmp_ltT (tgt := 100) (eD DX5_leastReach 30 rfl) rfl (by omega) (by decide) h1 ?_
    exact go_iload_n (eD DX5_leastReach 58 rfl) rfl rfl (go_iconst (eD DX5_leastReach 59 rfl) (go_iadd (eD DX5_leastReach 60 rfl) (go_istore (eD DX5_leastReach 61 rfl) (by decide) (Go.pick [1, 2, 3, 5, 0] rfl (k1 h1)))))
  · refine go_icmp_ltF (tgt := 100) (eD DX5_leastReach 30 rfl) rfl (by omega) (by decide) h1 ?_
    refine go_iload_n (eD DX5_leastReach 31 rfl) rfl rfl (go_iconst (eD DX5_leastReach 32 rfl) (go_iload (eD DX5_leastReach 33 rfl) rfl (go_iconst (eD DX5_leastReach 34 rfl) (go_iadd (eD DX5_leastReach 35 rfl) (go_imul (eD DX5_leastReach 36 rfl) (go_isub (eD DX5_leastReach 37 rfl) (go_aload_n (eD DX5_leastReach 38 rfl) rfl rfl (go_iconst (eD DX5_leastReach 39 rfl) (?_)))))))))
    refine go_callV (ci := 5) [(0, 0)] (eD DX5_leastReach 40 rfl) ⟨eMem 3 159 rfl rfl, sX5_timeOf⟩ ⟨Nat.le_of_ble_eq_true rfl, Nat.le_of_ble_eq_true rfl⟩ (by decide) ⟨rfl, by decide, _, rfl, rfl⟩ rfl rfl (Nat.le_of_ble_eq_true rfl) (Cal.as (zX5_timeOf w 0 (by decide) ) (r2 := some (0, w 17 0)) (w2 := w) (by (try simp only [rX5_timeOf, if_neg h1]) <;> (try rfl)) rfl) (?_)
    refine go_imul (eD DX5_leastReach 41 rfl) (go_istore (eD DX5_leastReach 42 rfl) (by decide) (go_iload (eD DX5_leastReach 43 rfl) rfl (go_iload (eD DX5_leastReach 44 rfl) rfl (?_))))
    by_cases h2 : ((py - (4 * (y + 1))) * (w 17 0)) < best
    · refine go_icmp_ltT (tgt := 75) (eD DX5_leastReach 45 rfl) rfl (show eI ((py - (4 * (y + 1))) * (w 17 0)) from by omega) (by omega) h2 ?_
      exact go_iload (eD DX5_leastReach 47 rfl) rfl (go_iload (eD DX5_leastReach 48 rfl) rfl (go_aload_n (eD DX5_leastReach 49 rfl) rfl rfl (go_iload_n (eD DX5_leastReach 50 rfl) rfl rfl (go_iload (eD DX5_leastReach 51 rfl) rfl (go_callV (ci := 5) [(0, px), (0, y)] (eD DX5_leastReach 52 rfl) ⟨eMem 3 184 rfl rfl, sX5_rowTime⟩ ⟨Nat.le_of_ble_eq_true rfl, Nat.le_of_ble_eq_true rfl⟩ (by decide) ⟨rfl, by decide, _, rfl, rfl⟩ rfl rfl (Nat.le_of_ble_eq_true rfl) (y_X5_rowTime w px y (by omega) (by omega) hB hR) (go_mmax (eD DX5_leastReach 53 rfl) (eMem 3 188 rfl rfl) ⟨Nat.le_of_ble_eq_true rfl, Nat.le_of_ble_eq_true rfl⟩ (show eI ((py - (4 * (y + 1))) * (w 17 0)) from by omega) (show eI (rT w px y) from by omega) (go_mmin (eD DX5_leastReach 54 rfl) (eMem 3 169 rfl rfl) ⟨Nat.le_of_ble_eq_true rfl, Nat.le_of_ble_eq_true rfl⟩ (by omega) (show eI (max ((py - (4 * (y + 1))) * (w 17 0)) (rT w px y)) from by omega) (go_istore (eD DX5_leastReach 55 rfl) (by decide) (go_iinc (eD DX5_leastReach 56 rfl) rfl (by decide) (go_goto (tgt := 43) (eD DX5_leastReach 57 rfl) rfl (Go.pick [3, 4, 5, 6, 1, 0] rfl (k2 h1 h2))))))))))))
    · refine go_icmp_ltF (tgt := 75) (eD DX5_leastReach 45 rfl) rfl (show eI ((py - (4 * (y + 1))) * (w 17 0)) from by omega) (by omega) h2 ?_
      exact go_goto (tgt := 100) (eD DX5_leastReach 46 rfl) rfl (go_iload_n (eD DX5_leastReach 58 rfl) rfl rfl (go_iconst (eD DX5_leastReach 59 rfl) (go_iadd (eD DX5_leastReach 60 rfl) (go_istore (eD DX5_leastReach 61 rfl) (by decide) (Go.pick [2, 3, 4, 6, 0] rfl (k3 h1 h2))))))
set_option maxHeartbeats 4000000 in
set_option maxRecDepth 20000 in
theorem tX5_leastReach_105 {r : Option eV} {w9 : eW} (w : eW) (px py best y : Int) (hB : HH w) (hR : RR w px) (hp : 0 ≤ px ∧ px ≤ 56 ∧ 0 ≤ py ∧ py ≤ 40) (hy : -3 ≤ y ∧ y ≤ 11) (hb : eI best) (ht : eI ((4 * y - py) * w 17 2)) (k1 : (w 2 1) < y → r = some (0, best) ∧ w9 = w) (k2 : ¬ ((w 2 1) < y) → (((4 * y) - py) * (w 17 2)) < best → Go mX5_leastReach 105 [(0, eR 16), (1, (0, px)), (2, (0, py)), (5, (0, min best (max (((4 * y) - py) * (w 17 2)) (rT w px y)))), (6, (0, y + 1))] [] w r w9) (k3 : ¬ ((w 2 1) < y) → ¬ ((((4 * y) - py) * (w 17 2)) < best) → r = some (0, best) ∧ w9 = w) : Go mX5_leastReach 105 [(0, eR 16), (1, (0, px)), (2, (0, py)), (5, (0, best)), (6, (0, y))] [] w r w9 := by
  obtain ⟨⟨⟨b1, b2, b3, b4, b5, b6⟩, b7, b8, b9⟩, b10, b11⟩ := id hB
  have := rT_b hB (px := px) (by omega) (y)
  refine go_iload (eD DX5_leastReach 62 rfl) rfl (go_aload_n (eD DX5_leastReach 63 rfl) rfl rfl (go_getR (t := 2) (eD DX5_leastReach 64 rfl) fX5_45 (by decide) rfl ⟨rfl, rfl⟩ (go_getI (kz := 1) (eD DX5_leastReach 65 rfl) fX5_62 (by decide) rfl rfl rfl (?_))))
  by_cases h1 : (w 2 1) < y
  · refine go_icmp_gtT (tgt := 166) (eD DX5_leastReach 66 rfl) rfl (by omega) (show eI (w 2 1) from by omega) h1 ?_
    rw [(k1 h1).1, (k1 h1).2]
    exact go_iload (eD DX5_leastReach 92 rfl) rfl (go_iret (eD DX5_leastReach 93 rfl) rfl)
  · refine go_icmp_gtF (tgt := 166) (eD DX5_leastReach 66 rfl) rfl (by omega) (show eI (w 2 1) from by omega) h1 ?_
    refine go_iconst (eD DX5_leastReach 67 rfl) (go_iload (eD DX5_leastReach 68 rfl) rfl (go_imul (eD DX5_leastReach 69 rfl) (go_iload_n (eD DX5_leastReach 70 rfl) rfl rfl (go_isub (eD DX5_leastReach 71 rfl) (go_aload_n (eD DX5_leastReach 72 rfl) rfl rfl (go_iconst (eD DX5_leastReach 73 rfl) (?_)))))))
    refine go_callV (ci := 5) [(0, 2)] (eD DX5_leastReach 74 rfl) ⟨eMem 3 159 rfl rfl, sX5_timeOf⟩ ⟨Nat.le_of_ble_eq_true rfl, Nat.le_of_ble_eq_true rfl⟩ (by decide) ⟨rfl, by decide, _, rfl, rfl⟩ rfl rfl (Nat.le_of_ble_eq_true rfl) (Cal.as (zX5_timeOf w 2 (by decide) ) (r2 := some (0, w 17 2)) (w2 := w) (by (try simp only [rX5_timeOf, if_neg h1]) <;> (try rfl)) rfl) (?_)
    refine go_imul (eD DX5_leastReach 75 rfl) (go_istore (eD DX5_leastReach 76 rfl) (by decide) (go_iload (eD DX5_leastReach 77 rfl) rfl (go_iload (eD DX5_leastReach 78 rfl) rfl (?_))))
    by_cases h2 : (((4 * y) - py) * (w 17 2)) < best
    · refine go_icmp_ltT (tgt := 141) (eD DX5_leastReach 79 rfl) rfl (show eI (((4 * y) - py) * (w 17 2)) from by omega) (by omega) h2 ?_
      exact go_iload (eD DX5_leastReach 81 rfl) rfl (go_iload (eD DX5_leastReach 82 rfl) rfl (go_aload_n (eD DX5_leastReach 83 rfl) rfl rfl (go_iload_n (eD DX5_leastReach 84 rfl) rfl rfl (go_iload (eD DX5_leastReach 85 rfl) rfl (go_callV (ci := 5) [(0, px), (0, y)] (eD DX5_leastReach 86 rfl) ⟨eMem 3 184 rfl rfl, sX5_rowTime⟩ ⟨Nat.le_of_ble_eq_true rfl, Nat.le_of_ble_eq_true rfl⟩ (by decide) ⟨rfl, by decide, _, rfl, rfl⟩ rfl rfl (Nat.le_of_ble_eq_true rfl) (y_X5_rowTime w px y (by omega) (by omega) hB hR) (go_mmax (eD DX5_leastReach 87 rfl) (eMem 3 188 rfl rfl) ⟨Nat.le_of_ble_eq_true rfl, Nat.le_of_ble_eq_true rfl⟩ (show eI (((4 * y) - py) * (w 17 2)) from by omega) (show eI (rT w px y) from by omega) (go_mmin (eD DX5_leastReach 88 rfl) (eMem 3 169 rfl rfl) ⟨Nat.le_of_ble_eq_true rfl, Nat.le_of_ble_eq_true rfl⟩ (by omega) (show eI (max (((4 * y) - py) * (w 17 2)) (rT w px y)) from by omega) (go_istore (eD DX5_leastReach 89 rfl) (by decide) (go_iinc (eD DX5_leastReach 90 rfl) rfl (by decide) (go_goto (tgt := 105) (eD DX5_leastReach 91 rfl) rfl (Go.pick [3, 4, 5, 1, 0] rfl (k2 h1 h2))))))))))))
    · refine go_icmp_ltF (tgt := 141) (eD DX5_leastReach 79 rfl) rfl (show eI (((4 * y) - py) * (w 17 2)) from by omega) (by omega) h2 ?_
      rw [(k3 h1 h2).1, (k3 h1 h2).2]
      exact go_goto (tgt := 166) (eD DX5_leastReach 80 rfl) rfl (go_iload (eD DX5_leastReach 92 rfl) rfl (go_iret (eD DX5_leastReach 93 rfl) rfl))
