/-- all but some cells stay -/
def Fr (S : List Nat) (w w1 : eW) : Prop := ∀ k : Nat, k ∉ S → w1 k = w k
theorem Fr.rf {S : List Nat} {w : eW} : Fr S w w := fun _ _ => rfl
theorem Fr.tr {S : List Nat} {w w1 w2 : eW} (h1 : Fr S w w1) (h2 : Fr S w1 w2) : Fr S w w2 := fun k hk => (h2 k hk).trans (h1 k hk)
theorem Fr.mono {S S' : List Nat} {w w1 : eW} (h : Fr S w w1) (hs : ∀ k ∈ S, k ∈ S') : Fr S' w w1 := fun k hk => h k (fun q => hk (hs k q))
theorem Fr.put {S : List Nat} {w w1 : eW} {o : Nat} {i v : Int} (h : Fr S w w1) (ho : o ∈ S) : Fr S w (eU w1 o i v) := fun k hk => (eU_ne (fun e => hk (by rw [e]; exact ho))).trans (h k hk)
theorem Fr.at {S : List Nat} {w w1 : eW} (h : Fr S w w1) (k : Nat) (hk : k ∉ S) (i : Int) : w1 k i = w k i := congrFun (h k hk) i
theorem eU_get (w : eW) (o : Nat) (i v j : Int) : eU w o i v o j = if j = i then v else w o j := by rw [eU_at]
set_option maxRecDepth 20000 in
theorem tX0_mirror_0 {r : Option eV} {w9 : eW} (w : eW) (k1 : Go mX0_mirror 2 [(0, eR 2), (1, (0, 0))] [] w r w9) : Go mX0_mirror 0 [(0, eR 2)] [] w r w9 := by
  exact go_iconst (eD DX0_mirror 0 rfl) (go_istore_n (eD DX0_mirror 1 rfl) rfl (by decide) (Go.pick [1, 0] rfl (k1)))
set_option maxRecDepth 20000 in
theorem tX0_mirror_2 {r : Option eV} {w9 : eW} (w : eW) (y : Int) (hB : HB w) (hy : 0 ≤ y ∧ y ≤ w 2 1) (k1 : y < (w 2 1) → y < 10 → Go mX0_mirror 21 [(0, eR 2), (1, (0, y)), (2, (0, w 3 y)), (3, (0, 0)), (4, (0, 0))] [] w r w9) (k2 : y < (w 2 1) → ¬ (y < 10) → Go mX0_mirror 21 [(0, eR 2), (1, (0, y)), (2, (0, 0)), (3, (0, 0)), (4, (0, 0))] [] w r w9) (k3 : ¬ (y < (w 2 1)) → r = none ∧ w9 = w) : Go mX0_mirror 2 [(0, eR 2), (1, (0, y))] [] w r w9 := by
  obtain ⟨⟨b1, b2, b3, b4, b5, b6⟩, b7, b8, b9⟩ := id hB
  have a1 : ¬ (y < 0) := by omega
  refine go_iload_n (eD DX0_mirror 2 rfl) rfl rfl (go_aload_n (eD DX0_mirror 3 rfl) rfl rfl (go_getI (kz := 1) (eD DX0_mirror 4 rfl) fX0_15 (by decide) rfl rfl rfl (?_)))
  by_cases h1 : y < (w 2 1)
  · refine go_icmp_geF (tgt := 67) (eD DX0_mirror 5 rfl) rfl (by omega) (show eI (w 2 1) from by omega) (Int.not_le.mpr h1) ?_
    refine go_aload_n (eD DX0_mirror 6 rfl) rfl rfl (go_iload_n (eD DX0_mirror 7 rfl) rfl rfl (?_))
    by_cases h2 : y < 10
    · refine go_callV (ci := 0) [(0, y)] (eD DX0_mirror 8 rfl) ⟨eMem 2 190 rfl rfl, sX0_lineAt⟩ ⟨Nat.le_of_ble_eq_true rfl, Nat.le_of_ble_eq_true rfl⟩ (by decide) ⟨rfl, by decide, _, rfl, rfl⟩ rfl rfl (Nat.le_of_ble_eq_true rfl) (Cal.as (zX0_lineAt w y (by omega) (by assumption)) (r2 := some (0, w 3 y)) (w2 := w) (by simp only [rX0_lineAt, if_neg a1, if_pos h1, if_pos h2]) rfl) (?_)
      exact go_istore_n (eD DX0_mirror 9 rfl) rfl (by decide) (go_iconst (eD DX0_mirror 10 rfl) (go_istore_n (eD DX0_mirror 11 rfl) rfl (by decide) (go_iconst (eD DX0_mirror 12 rfl) (go_istore (eD DX0_mirror 13 rfl) (by decide) (Go.pick [3, 4, 2, 1, 0] rfl (k1 h1 h2))))))
    · refine go_callV (ci := 0) [(0, y)] (eD DX0_mirror 8 rfl) ⟨eMem 2 190 rfl rfl, sX0_lineAt⟩ ⟨Nat.le_of_ble_eq_true rfl, Nat.le_of_ble_eq_true rfl⟩ (by decide) ⟨rfl, by decide, _, rfl, rfl⟩ rfl rfl (Nat.le_of_ble_eq_true rfl) (Cal.as (zX0_lineAt w y (by omega) (by assumption)) (r2 := some (0, 0)) (w2 := w) (by simp only [rX0_lineAt, if_neg a1, if_pos h1, if_neg h2]) rfl) (?_)
      exact go_istore_n (eD DX0_mirror 9 rfl) rfl (by decide) (go_iconst (eD DX0_mirror 10 rfl) (go_istore_n (eD DX0_mirror 11 rfl) rfl (by decide) (go_iconst (eD DX0_mirror 12 rfl) (go_istore (eD DX0_mirror 13 rfl) (by decide) (Go.pick [3, 4, 2, 1, 0] rfl (k2 h1 h2))))))
  · refine go_icmp_geT (tgt := 67) (eD DX0_mirror 5 rfl) rfl (by omega) (show eI (w 2 1) from by omega) (Int.not_lt.mp h1) ?_
    rw [(k3 h1).1, (k3 h1).2]
    exact go_vret (eD DX0_mirror 41 rfl) rfl
set_option maxRecDepth 20000 in
theorem tX0_mirror_21 {r : Option eV} {w9 : eW} (w : eW) (y line t x : Int) (hB : HB w) (hy : 0 ≤ y ∧ y < 10) (hl : 0 ≤ line ∧ line < 16384) (hx : 0 ≤ x ∧ x ≤ w 2 0) (k1 : x < (w 2 0) → Go mX0_mirror 21 [(0, eR 2), (1, (0, y)), (2, (0, line)), (3, (0, eOr t ((eAnd (line / 2 ^ (x).toNat) 1) * 2 ^ (((w 2 0) - 1) - x).toNat))), (4, (0, x + 1))] [] w r w9) (k2 : ¬ (x < (w 2 0)) → Go mX0_mirror 2 [(0, eR 2), (1, (0, y + 1))] [] (eU w 3 y t) r w9) : Go mX0_mirror 21 [(0, eR 2), (1, (0, y)), (2, (0, line)), (3, (0, t)), (4, (0, x))] [] w r w9 := by
  obtain ⟨⟨b1, b2, b3, b4, b5, b6⟩, b7, b8, b9⟩ := id hB
  have a1 : ¬ (y < 0) := by omega
  have a2 : y < 10 := by omega
  refine go_iload (eD DX0_mirror 14 rfl) rfl (go_aload_n (eD DX0_mirror 15 rfl) rfl rfl (go_getI (kz := 0) (eD DX0_mirror 16 rfl) fX0_9 (by decide) rfl rfl rfl (?_)))
  by_cases h1 : x < (w 2 0)
  · refine go_icmp_geF (tgt := 55) (eD DX0_mirror 17 rfl) rfl (by omega) (show eI (w 2 0) from by omega) (Int.not_le.mpr h1) ?_
    exact go_iload_n (eD DX0_mirror 18 rfl) rfl rfl (go_iload_n (eD DX0_mirror 19 rfl) rfl rfl (go_iload (eD DX0_mirror 20 rfl) rfl (go_ishr (eD DX0_mirror 21 rfl) (by omega) (by omega) (go_iconst (eD DX0_mirror 22 rfl) (go_iand (eD DX0_mirror 23 rfl) (go_aload_n (eD DX0_mirror 24 rfl) rfl rfl (go_getI (kz := 0) (eD DX0_mirror 25 rfl) fX0_9 (by decide) rfl rfl rfl (go_iconst (eD DX0_mirror 26 rfl) (go_isub (eD DX0_mirror 27 rfl) (go_iload (eD DX0_mirror 28 rfl) rfl (go_isub (eD DX0_mirror 29 rfl) (go_ishl (eD DX0_mirror 30 rfl) (show 0 ≤ (((w 2 0) - 1) - x) ∧ (((w 2 0) - 1) - x) < 32 from by omega) (go_ior (eD DX0_mirror 31 rfl) (go_istore_n (eD DX0_mirror 32 rfl) rfl (by decide) (go_iinc (eD DX0_mirror 33 rfl) rfl (by decide) (go_goto (tgt := 21) (eD DX0_mirror 34 rfl) rfl (Go.pick [2, 3, 4, 1, 0] rfl (k1 h1))))))))))))))))))
  · refine go_icmp_geT (tgt := 55) (eD DX0_mirror 17 rfl) rfl (by omega) (show eI (w 2 0) from by omega) (Int.not_lt.mp h1) ?_
    refine go_aload_n (eD DX0_mirror 35 rfl) rfl rfl (go_iload_n (eD DX0_mirror 36 rfl) rfl rfl (go_iload_n (eD DX0_mirror 37 rfl) rfl rfl (?_)))
    refine go_callV (ci := 0) [(0, y), (0, t)] (eD DX0_mirror 38 rfl) ⟨eMem 4 140 rfl rfl, sX0_setLine⟩ ⟨Nat.le_of_ble_eq_true rfl, Nat.le_of_ble_eq_true rfl⟩ (by decide) ⟨rfl, by decide, _, rfl, rfl⟩ rfl rfl (Nat.le_of_ble_eq_true rfl) (Cal.as (zX0_setLine w y t (by omega) ) (r2 := none) (w2 := (eU w 3 y t)) rfl (by simp only [wX0_setLine, if_neg a1, if_pos a2, if_neg h1])) (?_)
    exact go_iinc (eD DX0_mirror 39 rfl) rfl (by decide) (go_goto (tgt := 2) (eD DX0_mirror 40 rfl) rfl (Go.pick [1, 0] rfl (k2 h1)))
theorem HB_rows {w w1 : eW} (hB : HB w) (h : Fr [3] w w1) (hr : ∀ i, 0 ≤ i → i < 10 → 0 ≤ w1 3 i ∧ w1 3 i < 16384) : HB w1 := by
  obtain ⟨b1, b7, b8, b9⟩ := hB
  have e2 := h 2 (by decide)
  have e4 := h 4 (by decide)
  have e5 := h 5 (by decide)
  unfold HB
  rw [e2, e4, e5]
  exact ⟨b1, hr, b8, b9⟩
/-- the bits of a row, from the other end -/
def flipRow (wd n t : Int) : Prop := (0 ≤ t ∧ t < 16384) ∧ ∀ j, 0 ≤ j → j < 14 → bitv t j = if j < wd then bitv n (wd - 1 - j) else 0
theorem y_X0_mirror (w : eW) (hB : HB w) : ∃ w1, Cal mX0_mirror [eR 2] w none w1 ∧ Fr [3] w w1 ∧ ∀ y, 0 ≤ y → y < 10 → (if y < w 2 1 then flipRow (w 2 0) (w 3 y) (w1 3 y) else w1 3 y = w 3 y) := by
  obtain ⟨⟨b1, b2, b3, b4, b5, b6⟩, b7, b8, b9⟩ := id hB
  have key := loop_up (P := fun k => ∀ w0, Fr [3] w w0 → (∀ y, 0 ≤ y → y < 10 → (if y < k then flipRow (w 2 0) (w 3 y) (w0 3 y) else w0 3 y = w 3 y)) → ∃ w1, Go mX0_mirror 2 [(0, eR 2), (1, (0, k))] [] w0 none w1 ∧ Fr [3] w w1 ∧ ∀ y, 0 ≤ y → y < 10 → (if y < w 2 1 then flipRow (w 2 0) (w 3 y) (w1 3 y) else w1 3 y = w 3 y)) 0 (w 2 1) ?_ ?_ 0 (by omega) (by omega) w Fr.rf (fun y h1 h2 => by rw [if_neg (by omega)])
  · obtain ⟨w1, h1, h2, h3⟩ := key
    exact ⟨w1, Cal.of (by decide +kernel) (Nat.le_of_ble_eq_true rfl) (tX0_mirror_0 w h1), h2, h3⟩
  · intro w0 hF hI
    refine ⟨w0, ?_, hF, hI⟩
    have e2 : w0 2 1 = w 2 1 := hF.at 2 (by decide) 1
    have hB0 : HB w0 := HB_rows hB hF (fun i h1 h2 => by
      have := hI i h1 h2
      split at this
      · exact this.1
      · rw [this]; exact b7 i h1 h2)
    refine tX0_mirror_2 w0 _ hB0 (by omega) ?_ ?_ ?_
    all_goals (intros; first | omega | exact ⟨rfl, rfl⟩)
  · intro k hk1 hk2 ih w0 hF hI
    have e20 : w0 2 0 = w 2 0 := hF.at 2 (by decide) 0
    have e21 : w0 2 1 = w 2 1 := hF.at 2 (by decide) 1
    have hB0 : HB w0 := HB_rows hB hF (fun i h1 h2 => by
      have := hI i h1 h2
      split at this
      · exact this.1
      · rw [this]; exact b7 i h1 h2)
    have ek : w0 3 k = w 3 k := by have := hI k hk1 (by omega); rw [if_neg (by omega)] at this; exact this
    have bk := b7 k hk1 (by omega)
    -- the row's loop
    have inner : ∃ t, flipRow (w 2 0) (w 3 k) t ∧ ∀ (r : Option eV) (w9 : eW), Go mX0_mirror 2 [(0, eR 2), (1, (0, k + 1))] [] (eU w0 3 k t) r w9 → Go mX0_mirror 21 [(0, eR 2), (1, (0, k)), (2, (0, w 3 k)), (3, (0, 0)), (4, (0, 0))] [] w0 r w9 := by
      have := loop_up (P := fun x => ∀ t, (0 ≤ t ∧ t < 16384) → (∀ j, 0 ≤ j → j < 14 → bitv t j = if w 2 0 - x ≤ j ∧ j < w 2 0 then bitv (w 3 k) (w 2 0 - 1 - j) else 0) → ∃ t', flipRow (w 2 0) (w 3 k) t' ∧ ∀ (r : Option eV) (w9 : eW), Go mX0_mirror 2 [(0, eR 2), (1, (0, k + 1))] [] (eU w0 3 k t') r w9 → Go mX0_mirror 21 [(0, eR 2), (1, (0, k)), (2, (0, w 3 k)), (3, (0, t)), (4, (0, x))] [] w0 r w9) 0 (w 2 0) ?_ ?_ 0 (by omega) (by omega) 0 (by decide) (fun j h1 h2 => by rw [if_neg (by omega)]; unfold bitv; rw [Int.zero_ediv]; rfl)
      · exact this
      · intro t ht hb
        refine ⟨t, ⟨ht, fun j h1 h2 => ?_⟩, fun r w9 hk => ?_⟩
        · rw [hb j h1 h2]
          by_cases hj : j < w 2 0
          · rw [if_pos hj, if_pos (by omega)]
          · rw [if_neg hj, if_neg (by omega)]
        · refine tX0_mirror_21 w0 _ _ _ _ hB0 (by omega) (by omega) (by omega) ?_ ?_
          · intro h; omega
          · intro h; exact hk
      · intro x hx1 hx2 ihx t ht hb
        have hbit := bitv_01 (w 3 k) x
        have e1 : eAnd (w 3 k / 2 ^ x.toNat) 1 = bitv (w 3 k) x := eAnd_1 (e_div2 (by omega))
        have hsh : 0 ≤ bitv (w 3 k) x * 2 ^ (w 2 0 - 1 - x).toNat ∧ bitv (w 3 k) x * 2 ^ (w 2 0 - 1 - x).toNat < 2 ^ 14 := by
          have hp : (2 : Nat) ^ (w 2 0 - 1 - x).toNat ≤ 2 ^ 13 := Nat.pow_le_pow_right (by decide) (by omega)
          have hp0 : 0 < (2 : Nat) ^ (w 2 0 - 1 - x).toNat := Nat.pow_pos (by decide)
          rw [e_two]
          rcases hbit with h | h <;> rw [h] <;> omega
        have hor := eOr_lt (a := t) (b := bitv (w 3 k) x * 2 ^ (w 2 0 - 1 - x).toNat) 14 (by decide) ⟨ht.1, by omega⟩ hsh
        have hnew : ∀ j, 0 ≤ j → j < 14 → bitv (eOr t (bitv (w 3 k) x * 2 ^ (w 2 0 - 1 - x).toNat)) j = if w 2 0 - (x + 1) ≤ j ∧ j < w 2 0 then bitv (w 3 k) (w 2 0 - 1 - j) else 0 := by
          intro j h1 h2
          rw [bitv_or ⟨ht.1, by omega⟩ ⟨hsh.1, by omega⟩, hb j h1 h2, bitv_shl (by omega) (by omega) h1]
          by_cases hj : j = w 2 0 - 1 - x
          · rw [if_neg (show ¬ (w 2 0 - x ≤ j ∧ j < w 2 0) by omega), if_neg (show ¬ j < w 2 0 - 1 - x by omega), show j - (w 2 0 - 1 - x) = 0 by omega, if_pos (show w 2 0 - (x + 1) ≤ j ∧ j < w 2 0 by omega), show w 2 0 - 1 - j = x by omega]
            rcases hbit with h | h <;> rw [h] <;> rfl
          · have hz : (if j < w 2 0 - 1 - x then 0 else bitv (bitv (w 3 k) x) (j - (w 2 0 - 1 - x))) = 0 := by
              by_cases hj2 : j < w 2 0 - 1 - x
              · rw [if_pos hj2]
              · rw [if_neg hj2]
                exact bitv_big (k := 1) ⟨by omega, by rcases hbit with h | h <;> rw [h] <;> decide⟩ (by omega)
            rw [hz]
            by_cases hj3 : w 2 0 - x ≤ j ∧ j < w 2 0
            · rw [if_pos hj3, if_pos (show w 2 0 - (x + 1) ≤ j ∧ j < w 2 0 by omega)]
              rcases bitv_01 (w 3 k) (w 2 0 - 1 - j) with h | h <;> rw [h] <;> rfl
            · rw [if_neg hj3, if_neg (show ¬ (w 2 0 - (x + 1) ≤ j ∧ j < w 2 0) by omega)]
              rfl
        obtain ⟨t', h1, h2⟩ := ihx (eOr t (bitv (w 3 k) x * 2 ^ (w 2 0 - 1 - x).toNat)) (by omega) hnew
        refine ⟨t', h1, fun r w9 hk => tX0_mirror_21 w0 _ _ _ _ hB0 (by omega) (by omega) (by omega) (fun h => ?_) (fun h => absurd hx2 (by omega))⟩
        rw [e20, e1]
        exact h2 r w9 hk
    obtain ⟨t, ht, hgo⟩ := inner
    obtain ⟨w1, g1, g2, g3⟩ := ih (eU w0 3 k t) (hF.put (by decide)) (fun y h1 h2 => by
      rw [eU_get]
      by_cases hy : y = k
      · rw [if_pos hy, if_pos (by omega), hy]; exact ht
      · rw [if_neg hy]
        have := hI y h1 h2
        by_cases hy2 : y < k
        · rw [if_pos hy2] at this; rw [if_pos (by omega)]; exact this
        · rw [if_neg hy2] at this; rw [if_neg (by omega)]; exact this)
    refine ⟨w1, tX0_mirror_2 w0 _ hB0 (by omega) (fun h1 h2 => ?_) (fun h1 h2 => absurd hk2 (by omega)) (fun h1 => absurd hk2 (by omega)), g2, g3⟩
    rw [ek]
    exact hgo _ _ g1
