theorem e_pow14 {k : Int} (h : 0 ≤ k ∧ k ≤ 14) : 1 ≤ (2 : Int) ^ k.toNat ∧ (2 : Int) ^ k.toNat ≤ 16384 := by
  have h1 : (2 : Nat) ^ k.toNat ≤ 2 ^ 14 := Nat.pow_le_pow_right (by decide) (by omega)
  have h2 : 0 < (2 : Nat) ^ k.toNat := Nat.pow_pos (by decide)
  rw [e_two]
  omega
theorem bitv_mask {k x : Int} (hk : 0 ≤ k) (hx : 0 ≤ x) : bitv (2 ^ k.toNat - 1) x = if x < k then 1 else 0 := by
  have h2 : 0 < (2 : Nat) ^ k.toNat := Nat.pow_pos (by decide)
  have e : (2 : Int) ^ k.toNat - 1 = ((2 ^ k.toNat - 1 : Nat) : Int) := by rw [e_two]; omega
  rw [e, bitv_bt (Int.natCast_nonneg _), Int.toNat_natCast, Nat.testBit_two_pow_sub_one]
  by_cases h : x < k
  · have : x.toNat < k.toNat := by omega
    simp [h, this]
  · have : ¬ x.toNat < k.toNat := by omega
    simp [h, this]
/-- the bits of a row and of those beside it, within the frame -/
def growRow (wd a n b t : Int) : Prop := (0 ≤ t ∧ t < 16384) ∧ ∀ x, 0 ≤ x → x < 14 → bitv t x = if x < wd ∧ (bitv n x = 1 ∨ (1 ≤ x ∧ bitv n (x - 1) = 1) ∨ bitv n (x + 1) = 1 ∨ bitv a x = 1 ∨ bitv b x = 1) then 1 else 0
theorem growRow_is {wd a n b : Int} (hw : 0 ≤ wd ∧ wd ≤ 14) (ha : 0 ≤ a ∧ a < 16384) (hn : 0 ≤ n ∧ n < 16384) (hb : 0 ≤ b ∧ b < 16384) : growRow wd a n b (eAnd (eOr (eOr (eOr (eOr n (n * 2 ^ (1 : Int).toNat)) (n / 2 ^ (1 : Int).toNat)) a) b) (1 * 2 ^ wd.toNat - 1)) := by
  have e1 : (1 : Int).toNat = 1 := rfl
  have hp := e_pow14 hw
  rw [Int.one_mul]
  have m0 : 0 ≤ n * 2 ^ (1 : Int).toNat ∧ n * 2 ^ (1 : Int).toNat < 2 ^ 15 := by rw [e1]; omega
  have m1 : 0 ≤ n / 2 ^ (1 : Int).toNat ∧ n / 2 ^ (1 : Int).toNat < 2 ^ 15 := by rw [e1]; omega
  have o1 := eOr_lt (a := n) 15 (by decide) ⟨hn.1, by omega⟩ m0
  have o2 := eOr_lt 15 (by decide) o1 m1
  have o3 := eOr_lt 15 (by decide) o2 (show 0 ≤ a ∧ a < 2 ^ 15 by omega)
  have o4 := eOr_lt 15 (by decide) o3 (show 0 ≤ b ∧ b < 2 ^ 15 by omega)
  have o5 := eAnd_le (a := eOr (eOr (eOr (eOr n (n * 2 ^ (1 : Int).toNat)) (n / 2 ^ (1 : Int).toNat)) a) b) (b := 2 ^ wd.toNat - 1) (by omega) (by omega)
  refine ⟨by omega, fun x h1 h2 => ?_⟩
  rw [bitv_and (by omega) (by omega), bitv_mask hw.1 h1, bitv_or (by omega) (by omega), bitv_or (by omega) (by omega), bitv_or (by omega) (by omega), bitv_or (by omega) (by omega), bitv_shl hn.1 (by decide) h1, bitv_shr hn.1 (by decide) h1]
  by_cases hx : x < wd
  · rw [if_pos hx]
    by_cases hx1 : 1 ≤ x
    · rw [if_neg (show ¬ x < 1 by omega)]
      rcases bitv_01 n x with p1 | p1 <;> rcases bitv_01 n (x - 1) with p2 | p2 <;> rcases bitv_01 n (x + 1) with p3 | p3 <;> rcases bitv_01 a x with p4 | p4 <;> rcases bitv_01 b x with p5 | p5 <;> simp [p1, p2, p3, p4, p5, hx, hx1]
    · rw [if_pos (show x < 1 by omega)]
      rcases bitv_01 n x with p1 | p1 <;> rcases bitv_01 n (x + 1) with p3 | p3 <;> rcases bitv_01 a x with p4 | p4 <;> rcases bitv_01 b x with p5 | p5 <;> simp [p1, p3, p4, p5, hx, hx1]
  · rw [if_neg hx, Int.mul_zero, if_neg (fun q => hx q.1)]
/-- a row of the house, none beyond -/
def rowAt (w : eW) (y : Int) : Int := if 0 ≤ y ∧ y < w 2 1 then w 3 y else 0
set_option maxRecDepth 20000 in
theorem tX0_spread_0 {r : Option eV} {w9 : eW} (w : eW) (hB : HB w) (k1 : Go mX0_spread 19 [(0, eR 2), (1, (0, cnt2 w)), (2, (0, (1 * 2 ^ (w 2 0).toNat) - 1)), (3, (0, 0)), (4, (0, 0))] [] w r w9) : Go mX0_spread 0 [(0, eR 2)] [] w r w9 := by
  obtain ⟨⟨b1, b2, b3, b4, b5, b6⟩, b7, b8, b9⟩ := id hB
  exact go_aload_n (eD DX0_spread 0 rfl) rfl rfl (go_callV (ci := 0) [] (eD DX0_spread 1 rfl) ⟨eMem 4 135 rfl rfl, sX0_countInside⟩ ⟨Nat.le_of_ble_eq_true rfl, Nat.le_of_ble_eq_true rfl⟩ (by decide) ⟨rfl, by decide, _, rfl, rfl⟩ rfl rfl (Nat.le_of_ble_eq_true rfl) (y_X0_countInside w (by assumption)) (go_istore_n (eD DX0_spread 2 rfl) rfl (by decide) (go_iconst (eD DX0_spread 3 rfl) (go_aload_n (eD DX0_spread 4 rfl) rfl rfl (go_getI (kz := 0) (eD DX0_spread 5 rfl) fX0_9 (by decide) rfl rfl rfl (go_ishl (eD DX0_spread 6 rfl) (show 0 ≤ (w 2 0) ∧ (w 2 0) < 32 from by omega) (go_iconst (eD DX0_spread 7 rfl) (go_isub (eD DX0_spread 8 rfl) (go_istore_n (eD DX0_spread 9 rfl) rfl (by decide) (go_iconst (eD DX0_spread 10 rfl) (go_istore_n (eD DX0_spread 11 rfl) rfl (by decide) (go_iconst (eD DX0_spread 12 rfl) (go_istore (eD DX0_spread 13 rfl) (by decide) (Go.pick [4, 3, 2, 1, 0] rfl (k1)))))))))))))))
set_option maxRecDepth 20000 in
theorem tX0_spread_19 {r : Option eV} {w9 : eW} (w : eW) (before frame above y : Int) (hB : HB w) (hbf : eI before) (hab : eI above) (hy : 0 ≤ y ∧ y ≤ 10) (k1 : y < (w 2 1) → y < 10 → (y + 1) < (w 2 1) → (y + 1) < 10 → Go mX0_spread 19 [(0, eR 2), (1, (0, before)), (2, (0, frame)), (3, (0, w 3 y)), (4, (0, y + 1))] [] (eU w 3 y (eAnd (eOr (eOr (eOr (eOr (w 3 y) ((w 3 y) * 2 ^ (1 : Int).toNat)) ((w 3 y) / 2 ^ (1 : Int).toNat)) above) (w 3 (y + 1))) frame)) r w9) (k2 : y < (w 2 1) → y < 10 → (y + 1) < (w 2 1) → ¬ ((y + 1) < 10) → Go mX0_spread 19 [(0, eR 2), (1, (0, before)), (2, (0, frame)), (3, (0, w 3 y)), (4, (0, y + 1))] [] (eU w 3 y (eAnd (eOr (eOr (eOr (eOr (w 3 y) ((w 3 y) * 2 ^ (1 : Int).toNat)) ((w 3 y) / 2 ^ (1 : Int).toNat)) above) 0) frame)) r w9) (k3 : y < (w 2 1) → y < 10 → ¬ ((y + 1) < (w 2 1)) → Go mX0_spread 19 [(0, eR 2), (1, (0, before)), (2, (0, frame)), (3, (0, w 3 y)), (4, (0, y + 1))] [] (eU w 3 y (eAnd (eOr (eOr (eOr (eOr (w 3 y) ((w 3 y) * 2 ^ (1 : Int).toNat)) ((w 3 y) / 2 ^ (1 : Int).toNat)) above) 0) frame)) r w9) (k4 : y < (w 2 1) → ¬ (y < 10) → (y + 1) < (w 2 1) → (y + 1) < 10 → Go mX0_spread 19 [(0, eR 2), (1, (0, before)), (2, (0, frame)), (3, (0, 0)), (4, (0, y + 1))] [] w r w9) (k5 : y < (w 2 1) → ¬ (y < 10) → (y + 1) < (w 2 1) → ¬ ((y + 1) < 10) → Go mX0_spread 19 [(0, eR 2), (1, (0, before)), (2, (0, frame)), (3, (0, 0)), (4, (0, y + 1))] [] w r w9) (k6 : y < (w 2 1) → ¬ (y < 10) → ¬ ((y + 1) < (w 2 1)) → Go mX0_spread 19 [(0, eR 2), (1, (0, before)), (2, (0, frame)), (3, (0, 0)), (4, (0, y + 1))] [] w r w9) (k7 : ¬ (y < (w 2 1)) → r = some (0, (cnt2 w) - before) ∧ w9 = w) : Go mX0_spread 19 [(0, eR 2), (1, (0, before)), (2, (0, frame)), (3, (0, above)), (4, (0, y))] [] w r w9 := by
  obtain ⟨⟨b1, b2, b3, b4, b5, b6⟩, b7, b8, b9⟩ := id hB
  have b10 := b7 y
  have b11 := b7 (y + 1)
  have a1 : ¬ (y < 0) := by omega
  have a2 : ¬ ((y + 1) < 0) := by omega
  refine go_iload (eD DX0_spread 14 rfl) rfl (go_aload_n (eD DX0_spread 15 rfl) rfl rfl (go_getI (kz := 1) (eD DX0_spread 16 rfl) fX0_15 (by decide) rfl rfl rfl (?_)))
  by_cases h1 : y < (w 2 1)
  · refine go_icmp_geF (tgt := 76) (eD DX0_spread 17 rfl) rfl (by omega) (show eI (w 2 1) from by omega) (Int.not_le.mpr h1) ?_
    refine go_aload_n (eD DX0_spread 18 rfl) rfl rfl (go_iload (eD DX0_spread 19 rfl) rfl (?_))
    by_cases h2 : y < 10
    · refine go_callV (ci := 0) [(0, y)] (eD DX0_spread 20 rfl) ⟨eMem 2 190 rfl rfl, sX0_lineAt⟩ ⟨Nat.le_of_ble_eq_true rfl, Nat.le_of_ble_eq_true rfl⟩ (by decide) ⟨rfl, by decide, _, rfl, rfl⟩ rfl rfl (Nat.le_of_ble_eq_true rfl) (Cal.as (zX0_lineAt w y (by omega) (by assumption)) (r2 := some (0, w 3 y)) (w2 := w) (by simp only [rX0_lineAt, if_neg a1, if_neg a2, if_pos h1, if_pos h2]) rfl) (?_)
      refine go_istore (eD DX0_spread 21 rfl) (by decide) (go_aload_n (eD DX0_spread 22 rfl) rfl rfl (go_iload (eD DX0_spread 23 rfl) rfl (go_iload (eD DX0_spread 24 rfl) rfl (go_iload (eD DX0_spread 25 rfl) rfl (go_iconst (eD DX0_spread 26 rfl) (go_ishl (eD DX0_spread 27 rfl) (show (0 : Int) ≤ 1 ∧ (1 : Int) < 32 from by decide) (go_ior (eD DX0_spread 28 rfl) (go_iload (eD DX0_spread 29 rfl) rfl (go_iconst (eD DX0_spread 30 rfl) (go_ishr (eD DX0_spread 31 rfl) (show eI (w 3 y) from by omega) (show (0 : Int) ≤ 1 ∧ (1 : Int) < 32 from by decide) (go_ior (eD DX0_spread 32 rfl) (go_iload_n (eD DX0_spread 33 rfl) rfl rfl (go_ior (eD DX0_spread 34 rfl) (go_aload_n (eD DX0_spread 35 rfl) rfl rfl (go_iload (eD DX0_spread 36 rfl) rfl (go_iconst (eD DX0_spread 37 rfl) (go_iadd (eD DX0_spread 38 rfl) (?_))))))))))))))))))
      by_cases h3 : (y + 1) < (w 2 1)
      · by_cases h4 : (y + 1) < 10
        · refine go_callV (ci := 0) [(0, y + 1)] (eD DX0_spread 39 rfl) ⟨eMem 2 190 rfl rfl, sX0_lineAt⟩ ⟨Nat.le_of_ble_eq_true rfl, Nat.le_of_ble_eq_true rfl⟩ (by decide) ⟨rfl, by decide, _, rfl, rfl⟩ rfl rfl (Nat.le_of_ble_eq_true rfl) (Cal.as (zX0_lineAt w (y + 1) (by omega) (by assumption)) (r2 := some (0, w 3 (y + 1))) (w2 := w) (by simp only [rX0_lineAt, if_neg a1, if_neg a2, if_pos h1, if_pos h2, if_pos h3, if_pos h4]) rfl) (?_)
          refine go_ior (eD DX0_spread 40 rfl) (go_iload_n (eD DX0_spread 41 rfl) rfl rfl (go_iand (eD DX0_spread 42 rfl) (?_)))
          refine go_callV (ci := 0) [(0, y), (0, eAnd (eOr (eOr (eOr (eOr (w 3 y) ((w 3 y) * 2 ^ (1 : Int).toNat)) ((w 3 y) / 2 ^ (1 : Int).toNat)) above) (w 3 (y + 1))) frame)] (eD DX0_spread 43 rfl) ⟨eMem 4 140 rfl rfl, sX0_setLine⟩ ⟨Nat.le_of_ble_eq_true rfl, Nat.le_of_ble_eq_true rfl⟩ (by decide) ⟨rfl, by decide, _, rfl, rfl⟩ rfl rfl (Nat.le_of_ble_eq_true rfl) (Cal.as (zX0_setLine w y (eAnd (eOr (eOr (eOr (eOr (w 3 y) ((w 3 y) * 2 ^ (1 : Int).toNat)) ((w 3 y) / 2 ^ (1 : Int).toNat)) above) (w 3 (y + 1))) frame) (by omega) ) (r2 := none) (w2 := (eU w 3 y (eAnd (eOr (eOr (eOr (eOr (w 3 y) ((w 3 y) * 2 ^ (1 : Int).toNat)) ((w 3 y) / 2 ^ (1 : Int).toNat)) above) (w 3 (y + 1))) frame))) rfl (by simp only [wX0_setLine, if_neg a1, if_neg a2, if_pos h1, if_pos h2, if_pos h3, if_pos h4])) (?_)
          exact go_iload (eD DX0_spread 44 rfl) rfl (go_istore_n (eD DX0_spread 45 rfl) rfl (by decide) (go_iinc (eD DX0_spread 46 rfl) rfl (by decide) (go_goto (tgt := 19) (eD DX0_spread 47 rfl) rfl (Go.pick [3, 4, 5, 1, 0] rfl (k1 h1 h2 h3 h4)))))
        · refine go_callV (ci := 0) [(0, y + 1)] (eD DX0_spread 39 rfl) ⟨eMem 2 190 rfl rfl, sX0_lineAt⟩ ⟨Nat.le_of_ble_eq_true rfl, Nat.le_of_ble_eq_true rfl⟩ (by decide) ⟨rfl, by decide, _, rfl, rfl⟩ rfl rfl (Nat.le_of_ble_eq_true rfl) (Cal.as (zX0_lineAt w (y + 1) (by omega) (by assumption)) (r2 := some (0, 0)) (w2 := w) (by simp only [rX0_lineAt, if_neg a1, if_neg a2, if_pos h1, if_pos h2, if_pos h3, if_neg h4]) rfl) (?_)
          refine go_ior (eD DX0_spread 40 rfl) (go_iload_n (eD DX0_spread 41 rfl) rfl rfl (go_iand (eD DX0_spread 42 rfl) (?_)))
          refine go_callV (ci := 0) [(0, y), (0, eAnd (eOr (eOr (eOr (eOr (w 3 y) ((w 3 y) * 2 ^ (1 : Int).toNat)) ((w 3 y) / 2 ^ (1 : Int).toNat)) above) 0) frame)] (eD DX0_spread 43 rfl) ⟨eMem 4 140 rfl rfl, sX0_setLine⟩ ⟨Nat.le_of_ble_eq_true rfl, Nat.le_of_ble_eq_true rfl⟩ (by decide) ⟨rfl, by decide, _, rfl, rfl⟩ rfl rfl (Nat.le_of_ble_eq_true rfl) (Cal.as (zX0_setLine w y (eAnd (eOr (eOr (eOr (eOr (w 3 y) ((w 3 y) * 2 ^ (1 : Int).toNat)) ((w 3 y) / 2 ^ (1 : Int).toNat)) above) 0) frame) (by omega) ) (r2 := none) (w2 := (eU w 3 y (eAnd (eOr (eOr (eOr (eOr (w 3 y) ((w 3 y) * 2 ^ (1 : Int).toNat)) ((w 3 y) / 2 ^ (1 : Int).toNat)) above) 0) frame))) rfl (by simp only [wX0_setLine, if_neg a1, if_neg a2, if_pos h1, if_pos h2, if_pos h3, if_neg h4])) (?_)
          exact go_iload (eD DX0_spread 44 rfl) rfl (go_istore_n (eD DX0_spread 45 rfl) rfl (by decide) (go_iinc (eD DX0_spread 46 rfl) rfl (by decide) (go_goto (tgt := 19) (eD DX0_spread 47 rfl) rfl (Go.pick [3, 4, 5, 1, 0] rfl (k2 h1 h2 h3 h4)))))
      · refine go_callV (ci := 0) [(0, y + 1)] (eD DX0_spread 39 rfl) ⟨eMem 2 190 rfl rfl, sX0_lineAt⟩ ⟨Nat.le_of_ble_eq_true rfl, Nat.le_of_ble_eq_true rfl⟩ (by decide) ⟨rfl, by decide, _, rfl, rfl⟩ rfl rfl (Nat.le_of_ble_eq_true rfl) (Cal.as (zX0_lineAt w (y + 1) (by omega) (by assumption)) (r2 := some (0, 0)) (w2 := w) (by simp only [rX0_lineAt, if_neg a1, if_neg a2, if_pos h1, if_pos h2, if_neg h3]) rfl) (?_)
        refine go_ior (eD DX0_spread 40 rfl) (go_iload_n (eD DX0_spread 41 rfl) rfl rfl (go_iand (eD DX0_spread 42 rfl) (?_)))
        refine go_callV (ci := 0) [(0, y), (0, eAnd (eOr (eOr (eOr (eOr (w 3 y) ((w 3 y) * 2 ^ (1 : Int).toNat)) ((w 3 y) / 2 ^ (1 : Int).toNat)) above) 0) frame)] (eD DX0_spread 43 rfl) ⟨eMem 4 140 rfl rfl, sX0_setLine⟩ ⟨Nat.le_of_ble_eq_true rfl, Nat.le_of_ble_eq_true rfl⟩ (by decide) ⟨rfl, by decide, _, rfl, rfl⟩ rfl rfl (Nat.le_of_ble_eq_true rfl) (Cal.as (zX0_setLine w y (eAnd (eOr (eOr (eOr (eOr (w 3 y) ((w 3 y) * 2 ^ (1 : Int).toNat)) ((w 3 y) / 2 ^ (1 : Int).toNat)) above) 0) frame) (by omega) ) (r2 := none) (w2 := (eU w 3 y (eAnd (eOr (eOr (eOr (eOr (w 3 y) ((w 3 y) * 2 ^ (1 : Int).toNat)) ((w 3 y) / 2 ^ (1 : Int).toNat)) above) 0) frame))) rfl (by simp only [wX0_setLine, if_neg a1, if_neg a2, if_pos h1, if_pos h2, if_neg h3])) (?_)
        exact go_iload (eD DX0_spread 44 rfl) rfl (go_istore_n (eD DX0_spread 45 rfl) rfl (by decide) (go_iinc (eD DX0_spread 46 rfl) rfl (by decide) (go_goto (tgt := 19) (eD DX0_spread 47 rfl) rfl (Go.pick [3, 4, 5, 1, 0] rfl (k3 h1 h2 h3)))))
    · refine go_callV (ci := 0) [(0, y)] (eD DX0_spread 20 rfl) ⟨eMem 2 190 rfl rfl, sX0_lineAt⟩ ⟨Nat.le_of_ble_eq_true rfl, Nat.le_of_ble_eq_true rfl⟩ (by decide) ⟨rfl, by decide, _, rfl, rfl⟩ rfl rfl (Nat.le_of_ble_eq_true rfl) (Cal.as (zX0_lineAt w y (by omega) (by assumption)) (r2 := some (0, 0)) (w2 := w) (by simp only [rX0_lineAt, if_neg a1, if_neg a2, if_pos h1, if_neg h2]) rfl) (?_)
      refine go_istore (eD DX0_spread 21 rfl) (by decide) (go_aload_n (eD DX0_spread 22 rfl) rfl rfl (go_iload (eD DX0_spread 23 rfl) rfl (go_iload (eD DX0_spread 24 rfl) rfl (go_iload (eD DX0_spread 25 rfl) rfl (go_iconst (eD DX0_spread 26 rfl) (go_ishl (eD DX0_spread 27 rfl) (show (0 : Int) ≤ 1 ∧ (1 : Int) < 32 from by decide) (go_ior (eD DX0_spread 28 rfl) (go_iload (eD DX0_spread 29 rfl) rfl (go_iconst (eD DX0_spread 30 rfl) (go_ishr (eD DX0_spread 31 rfl) (by decide) (show (0 : Int) ≤ 1 ∧ (1 : Int) < 32 from by decide) (go_ior (eD DX0_spread 32 rfl) (go_iload_n (eD DX0_spread 33 rfl) rfl rfl (go_ior (eD DX0_spread 34 rfl) (go_aload_n (eD DX0_spread 35 rfl) rfl rfl (go_iload (eD DX0_spread 36 rfl) rfl (go_iconst (eD DX0_spread 37 rfl) (go_iadd (eD DX0_spread 38 rfl) (?_))))))))))))))))))
      by_cases h3 : (y + 1) < (w 2 1)
      · by_cases h4 : (y + 1) < 10
        · refine go_callV (ci := 0) [(0, y + 1)] (eD DX0_spread 39 rfl) ⟨eMem 2 190 rfl rfl, sX0_lineAt⟩ ⟨Nat.le_of_ble_eq_true rfl, Nat.le_of_ble_eq_true rfl⟩ (by decide) ⟨rfl, by decide, _, rfl, rfl⟩ rfl rfl (Nat.le_of_ble_eq_true rfl) (Cal.as (zX0_lineAt w (y + 1) (by omega) (by assumption)) (r2 := some (0, w 3 (y + 1))) (w2 := w) (by simp only [rX0_lineAt, if_neg a1, if_neg a2, if_pos h1, if_neg h2, if_pos h3, if_pos h4]) rfl) (?_)
          refine go_ior (eD DX0_spread 40 rfl) (go_iload_n (eD DX0_spread 41 rfl) rfl rfl (go_iand (eD DX0_spread 42 rfl) (?_)))
          refine go_callV (ci := 0) [(0, y), (0, eAnd (eOr (eOr (eOr (eOr 0 (0 * 2 ^ (1 : Int).toNat)) (0 / 2 ^ (1 : Int).toNat)) above) (w 3 (y + 1))) frame)] (eD DX0_spread 43 rfl) ⟨eMem 4 140 rfl rfl, sX0_setLine⟩ ⟨Nat.le_of_ble_eq_true rfl, Nat.le_of_ble_eq_true rfl⟩ (by decide) ⟨rfl, by decide, _, rfl, rfl⟩ rfl rfl (Nat.le_of_ble_eq_true rfl) (Cal.as (zX0_setLine w y (eAnd (eOr (eOr (eOr (eOr 0 (0 * 2 ^ (1 : Int).toNat)) (0 / 2 ^ (1 : Int).toNat)) above) (w 3 (y + 1))) frame) (by omega) ) (r2 := none) (w2 := w) rfl (by simp only [wX0_setLine, if_neg a1, if_neg a2, if_pos h1, if_neg h2, if_pos h3, if_pos h4])) (?_)
          exact go_iload (eD DX0_spread 44 rfl) rfl (go_istore_n (eD DX0_spread 45 rfl) rfl (by decide) (go_iinc (eD DX0_spread 46 rfl) rfl (by decide) (go_goto (tgt := 19) (eD DX0_spread 47 rfl) rfl (Go.pick [3, 4, 5, 1, 0] rfl (k4 h1 h2 h3 h4)))))
        · refine go_callV (ci := 0) [(0, y + 1)] (eD DX0_spread 39 rfl) ⟨eMem 2 190 rfl rfl, sX0_lineAt⟩ ⟨Nat.le_of_ble_eq_true rfl, Nat.le_of_ble_eq_true rfl⟩ (by decide) ⟨rfl, by decide, _, rfl, rfl⟩ rfl rfl (Nat.le_of_ble_eq_true rfl) (Cal.as (zX0_lineAt w (y + 1) (by omega) (by assumption)) (r2 := some (0, 0)) (w2 := w) (by simp only [rX0_lineAt, if_neg a1, if_neg a2, if_pos h1, if_neg h2, if_pos h3, if_neg h4]) rfl) (?_)
          refine go_ior (eD DX0_spread 40 rfl) (go_iload_n (eD DX0_spread 41 rfl) rfl rfl (go_iand (eD DX0_spread 42 rfl) (?_)))
          refine go_callV (ci := 0) [(0, y), (0, eAnd (eOr (eOr (eOr (eOr 0 (0 * 2 ^ (1 : Int).toNat)) (0 / 2 ^ (1 : Int).toNat)) above) 0) frame)] (eD DX0_spread 43 rfl) ⟨eMem 4 140 rfl rfl, sX0_setLine⟩ ⟨Nat.le_of_ble_eq_true rfl, Nat.le_of_ble_eq_true rfl⟩ (by decide) ⟨rfl, by decide, _, rfl, rfl⟩ rfl rfl (Nat.le_of_ble_eq_true rfl) (Cal.as (zX0_setLine w y (eAnd (eOr (eOr (eOr (eOr 0 (0 * 2 ^ (1 : Int).toNat)) (0 / 2 ^ (1 : Int).toNat)) above) 0) frame) (by omega) ) (r2 := none) (w2 := w) rfl (by simp only [wX0_setLine, if_neg a1, if_neg a2, if_pos h1, if_neg h2, if_pos h3, if_neg h4])) (?_)
          exact go_iload (eD DX0_spread 44 rfl) rfl (go_istore_n (eD DX0_spread 45 rfl) rfl (by decide) (go_iinc (eD DX0_spread 46 rfl) rfl (by decide) (go_goto (tgt := 19) (eD DX0_spread 47 rfl) rfl (Go.pick [3, 4, 5, 1, 0] rfl (k5 h1 h2 h3 h4)))))
      · refine go_callV (ci := 0) [(0, y + 1)] (eD DX0_spread 39 rfl) ⟨eMem 2 190 rfl rfl, sX0_lineAt⟩ ⟨Nat.le_of_ble_eq_true rfl, Nat.le_of_ble_eq_true rfl⟩ (by decide) ⟨rfl, by decide, _, rfl, rfl⟩ rfl rfl (Nat.le_of_ble_eq_true rfl) (Cal.as (zX0_lineAt w (y + 1) (by omega) (by assumption)) (r2 := some (0, 0)) (w2 := w) (by simp only [rX0_lineAt, if_neg a1, if_neg a2, if_pos h1, if_neg h2, if_neg h3]) rfl) (?_)
        refine go_ior (eD DX0_spread 40 rfl) (go_iload_n (eD DX0_spread 41 rfl) rfl rfl (go_iand (eD DX0_spread 42 rfl) (?_)))
        refine go_callV (ci := 0) [(0, y), (0, eAnd (eOr (eOr (eOr (eOr 0 (0 * 2 ^ (1 : Int).toNat)) (0 / 2 ^ (1 : Int).toNat)) above) 0) frame)] (eD DX0_spread 43 rfl) ⟨eMem 4 140 rfl rfl, sX0_setLine⟩ ⟨Nat.le_of_ble_eq_true rfl, Nat.le_of_ble_eq_true rfl⟩ (by decide) ⟨rfl, by decide, _, rfl, rfl⟩ rfl rfl (Nat.le_of_ble_eq_true rfl) (Cal.as (zX0_setLine w y (eAnd (eOr (eOr (eOr (eOr 0 (0 * 2 ^ (1 : Int).toNat)) (0 / 2 ^ (1 : Int).toNat)) above) 0) frame) (by omega) ) (r2 := none) (w2 := w) rfl (by simp only [wX0_setLine, if_neg a1, if_neg a2, if_pos h1, if_neg h2, if_neg h3])) (?_)
        exact go_iload (eD DX0_spread 44 rfl) rfl (go_istore_n (eD DX0_spread 45 rfl) rfl (by decide) (go_iinc (eD DX0_spread 46 rfl) rfl (by decide) (go_goto (tgt := 19) (eD DX0_spread 47 rfl) rfl (Go.pick [3, 4, 5, 1, 0] rfl (k6 h1 h2 h3)))))
  · refine go_icmp_geT (tgt := 76) (eD DX0_spread 17 rfl) rfl (by omega) (show eI (w 2 1) from by omega) (Int.not_lt.mp h1) ?_
    rw [(k7 h1).1, (k7 h1).2]
    exact go_aload_n (eD DX0_spread 48 rfl) rfl rfl (go_callV (ci := 0) [] (eD DX0_spread 49 rfl) ⟨eMem 4 135 rfl rfl, sX0_countInside⟩ ⟨Nat.le_of_ble_eq_true rfl, Nat.le_of_ble_eq_true rfl⟩ (by decide) ⟨rfl, by decide, _, rfl, rfl⟩ rfl rfl (Nat.le_of_ble_eq_true rfl) (y_X0_countInside w (by assumption)) (go_iload_n (eD DX0_spread 50 rfl) rfl rfl (go_isub (eD DX0_spread 51 rfl) (go_iret (eD DX0_spread 52 rfl) rfl))))
theorem y_X0_spread (w : eW) (hB : HB w) : ∃ w1, Cal mX0_spread [eR 2] w (some (0, cnt2 w1 - cnt2 w)) w1 ∧ HB w1 ∧ Fr [3] w w1 ∧ ∀ y, 0 ≤ y → y < 10 → (if y < w 2 1 then growRow (w 2 0) (rowAt w (y - 1)) (w 3 y) (rowAt w (y + 1)) (w1 3 y) else w1 3 y = w 3 y) := by
  obtain ⟨⟨b1, b2, b3, b4, b5, b6⟩, b7, b8, b9⟩ := id hB
  have hc := cnt2_bound hB
  have rb : ∀ y, 0 ≤ rowAt w y ∧ rowAt w y < 16384 := fun y => by
    unfold rowAt
    split
    · exact b7 y (by omega) (by omega)
    · decide
  have key := loop_up (P := fun k => ∀ w0, Fr [3] w w0 → (∀ y, 0 ≤ y → y < 10 → (if y < k then growRow (w 2 0) (rowAt w (y - 1)) (w 3 y) (rowAt w (y + 1)) (w0 3 y) else w0 3 y = w 3 y)) → ∃ w1, Go mX0_spread 19 [(0, eR 2), (1, (0, cnt2 w)), (2, (0, 1 * 2 ^ (w 2 0).toNat - 1)), (3, (0, rowAt w (k - 1))), (4, (0, k))] [] w0 (some (0, cnt2 w1 - cnt2 w)) w1 ∧ HB w1 ∧ Fr [3] w w1 ∧ ∀ y, 0 ≤ y → y < 10 → (if y < w 2 1 then growRow (w 2 0) (rowAt w (y - 1)) (w 3 y) (rowAt w (y + 1)) (w1 3 y) else w1 3 y = w 3 y)) 0 (w 2 1) ?_ ?_ 0 (by omega) (by omega) w Fr.rf (fun y h1 h2 => by rw [if_neg (by omega)])
  · obtain ⟨w1, h1, h2, h3⟩ := key
    rw [show rowAt w (0 - 1) = 0 by unfold rowAt; rw [if_neg (by omega)]] at h1
    exact ⟨w1, Cal.of (by decide +kernel) (Nat.le_of_ble_eq_true rfl) (tX0_spread_0 w hB h1), h2, h3⟩
  · intro w0 hF hI
    have e2 : w0 2 1 = w 2 1 := hF.at 2 (by decide) 1
    have hB0 : HB w0 := HB_rows hB hF (fun i h1 h2 => by
      have := hI i h1 h2
      split at this
      · exact this.1
      · rw [this]; exact b7 i h1 h2)
    have hc0 := cnt2_bound hB0
    have rb1 := rb (w 2 1 - 1)
    refine ⟨w0, ?_, hB0, hF, hI⟩
    apply tX0_spread_19 w0 _ _ _ _ hB0 (by omega) (by omega) (by omega)
    all_goals (intros; first | omega | exact ⟨rfl, rfl⟩)
  · intro k hk1 hk2 ih w0 hF hI
    have e20 : w0 2 0 = w 2 0 := hF.at 2 (by decide) 0
    have e21 : w0 2 1 = w 2 1 := hF.at 2 (by decide) 1
    have hB0 : HB w0 := HB_rows hB hF (fun i h1 h2 => by
      have := hI i h1 h2
      split at this
      · exact this.1
      · rw [this]; exact b7 i h1 h2)
    have ek : w0 3 k = w 3 k := by have := hI k hk1 (by omega); rw [if_neg (by omega)] at this; exact this
    have bk := b7 k hk1 (by omega)
    have rk : rowAt w (k + 1 - 1) = w 3 k := by unfold rowAt; rw [show k + 1 - 1 = k by omega, if_pos ⟨hk1, hk2⟩]
    have rb0 := rb (k - 1)
    have hgr := growRow_is ⟨b1, b2⟩ (rb (k - 1)) bk (rb (k + 1))
    obtain ⟨w1, g1, g2, g3, g4⟩ := ih (eU w0 3 k (eAnd (eOr (eOr (eOr (eOr (w 3 k) (w 3 k * 2 ^ (1 : Int).toNat)) (w 3 k / 2 ^ (1 : Int).toNat)) (rowAt w (k - 1))) (rowAt w (k + 1))) (1 * 2 ^ (w 2 0).toNat - 1))) (hF.put (by decide)) (fun y h1 h2 => by
      rw [eU_get]
      by_cases hy : y = k
      · rw [if_pos hy, if_pos (by omega), hy]; exact hgr
      · rw [if_neg hy]
        have := hI y h1 h2
        by_cases hy2 : y < k
        · rw [if_pos hy2] at this; rw [if_pos (by omega)]; exact this
        · rw [if_neg hy2] at this; rw [if_neg (by omega)]; exact this)
    have hc0 := cnt2_bound hB
    rw [rk] at g1
    refine ⟨w1, ?_, g2, g3, g4⟩
    apply tX0_spread_19 w0 _ _ _ _ hB0 (by omega) (by omega) (by omega)
    all_goals (intros; first | omega | skip)
    · have ek1 : w0 3 (k + 1) = w 3 (k + 1) := by have := hI (k + 1) (by omega) (by omega); rw [if_neg (by omega)] at this; exact this
      have rr : rowAt w (k + 1) = w 3 (k + 1) := by unfold rowAt; rw [if_pos (by omega)]
      rw [rr] at g1
      rw [ek, ek1]
      exact g1
    · have rr : rowAt w (k + 1) = 0 := by unfold rowAt; rw [if_neg (by omega)]
      rw [rr] at g1
      rw [ek]
      exact g1
