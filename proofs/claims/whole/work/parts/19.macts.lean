/-- a stretch of a row set: places a .. a + n - 1 of the cell o hold g -/
def eSet (w : eW) (o : Nat) (a n : Int) (g : Int → Int) : eW := fun k => if k = o then (fun j => if a ≤ j ∧ j < a + n then g (j - a) else w o j) else w k
theorem eSet_ne {w : eW} {o k : Nat} {a n : Int} {g : Int → Int} (h : k ≠ o) : eSet w o a n g k = w k := by simp [eSet, h]
theorem eSet_at (w : eW) (o : Nat) (a n : Int) (g : Int → Int) (j : Int) : eSet w o a n g o j = if a ≤ j ∧ j < a + n then g (j - a) else w o j := by simp [eSet]
theorem eSet_0 (w : eW) (o : Nat) (a : Int) (g : Int → Int) : eSet w o a 0 g = w := by
  funext k
  by_cases h : k = o
  · subst h
    funext j
    rw [eSet_at, if_neg (by omega)]
  · exact eSet_ne h
theorem eSet_next {w : eW} {o : Nat} {a n : Int} {g : Int → Int} (hn : 0 ≤ n) : eU (eSet w o a n g) o (a + n) (g n) = eSet w o a (n + 1) g := by
  funext k
  by_cases h : k = o
  · subst h
    funext j
    rw [eU_get, eSet_at, eSet_at]
    by_cases h1 : j = a + n
    · rw [if_pos h1, if_pos (by omega), h1, show a + n - a = n by omega]
    · rw [if_neg h1]
      by_cases h2 : a ≤ j ∧ j < a + n
      · rw [if_pos h2, if_pos (by omega)]
      · rw [if_neg h2, if_neg (by omega)]
  · rw [eU_ne h, eSet_ne h, eSet_ne h]
/-- a loop that sets a stretch -/
theorem loop_set {w : eW} {o : Nat} {a N : Int} {g : Int → Int} {P : Int → eW → Prop} (hN : 0 ≤ N) (h0 : P N (eSet w o a N g)) (hs : ∀ k, 0 ≤ k → k < N → P (k + 1) (eU (eSet w o a k g) o (a + k) (g k)) → P k (eSet w o a k g)) : P 0 w := by
  have := loop_up (P := fun k => P k (eSet w o a k g)) 0 N h0 (fun k h1 h2 ih => hs k h1 h2 (by rw [eSet_next h1]; exact ih)) 0 (by omega) hN
  rw [eSet_0] at this
  exact this
set_option maxRecDepth 20000 in
theorem tX8_many_0 {r : Option eV} {w9 : eW} (w : eW) (k1 : Go mX8_many 4 [(0, eR 33), (1, (0, 0)), (2, (0, 0))] [] w r w9) : Go mX8_many 0 [(0, eR 33)] [] w r w9 := by
  exact go_iconst (eD DX8_many 0 rfl) (go_istore_n (eD DX8_many 1 rfl) rfl (by decide) (go_iconst (eD DX8_many 2 rfl) (go_istore_n (eD DX8_many 3 rfl) rfl (by decide) (Go.pick [2, 1, 0] rfl (k1)))))
set_option maxRecDepth 20000 in
theorem tX8_many_4 {r : Option eV} {w9 : eW} (w : eW) (n k : Int) (hk : 0 ≤ k ∧ k ≤ 140) (k1 : k < 140 → Go mX8_many 4 [(0, eR 33), (1, (0, n + (w 38 k))), (2, (0, k + 1))] [] w r w9) (k2 : ¬ (k < 140) → r = some (0, n) ∧ w9 = w) : Go mX8_many 4 [(0, eR 33), (1, (0, n)), (2, (0, k))] [] w r w9 := by
  refine go_iload_n (eD DX8_many 4 rfl) rfl rfl (go_sipush (eD DX8_many 5 rfl) (by decide) (?_))
  by_cases h1 : k < 140
  · refine go_icmp_geF (tgt := 26) (eD DX8_many 6 rfl) rfl (by omega) (by decide) (Int.not_le.mpr h1) ?_
    exact go_iload_n (eD DX8_many 7 rfl) rfl rfl (go_aload_n (eD DX8_many 8 rfl) rfl rfl (go_getR (t := 38) (eD DX8_many 9 rfl) fX8_26 (by decide) rfl ⟨rfl, rfl⟩ (go_iload_n (eD DX8_many 10 rfl) rfl rfl (go_iald (n := 144) (eD DX8_many 11 rfl) (by decide) rfl (by omega) (go_iadd (eD DX8_many 12 rfl) (go_istore_n (eD DX8_many 13 rfl) rfl (by decide) (go_iinc (eD DX8_many 14 rfl) rfl (by decide) (go_goto (tgt := 4) (eD DX8_many 15 rfl) rfl (Go.pick [2, 1, 0] rfl (k1 h1))))))))))
  · refine go_icmp_geT (tgt := 26) (eD DX8_many 6 rfl) rfl (by omega) (by decide) (Int.not_lt.mp h1) ?_
    rw [(k2 h1).1, (k2 h1).2]
    exact go_iload_n (eD DX8_many 16 rfl) rfl rfl (go_iret (eD DX8_many 17 rfl) rfl)
theorem y_X8_many (w : eW) : Cal mX8_many [eR 33] w (some (0, sumI (w 38) 0 140)) w := by
  refine Cal.of (by decide +kernel) (Nat.le_of_ble_eq_true rfl) (tX8_many_0 w ?_)
  refine loop_up (P := fun k => Go mX8_many 4 [(0, eR 33), (1, (0, sumI (w 38) 0 k)), (2, (0, k))] [] w (some (0, sumI (w 38) 0 140)) w) 0 140 ?_ ?_ 0 (by omega) (by omega)
  · apply tX8_many_4 w _ _ (by omega)
    all_goals (intros; first | omega | exact ⟨rfl, rfl⟩)
  · intro k h1 h2 ih
    rw [sumI_succ _ h1] at ih
    apply tX8_many_4 w _ _ (by omega)
    all_goals (intros; first | omega | exact ih)
set_option maxRecDepth 20000 in
theorem tX8_manyRead_0 {r : Option eV} {w9 : eW} (w : eW) (k1 : Go mX8_manyRead 4 [(0, eR 33), (1, (0, 0)), (2, (0, 0))] [] w r w9) : Go mX8_manyRead 0 [(0, eR 33)] [] w r w9 := by
  exact go_iconst (eD DX8_manyRead 0 rfl) (go_istore_n (eD DX8_manyRead 1 rfl) rfl (by decide) (go_iconst (eD DX8_manyRead 2 rfl) (go_istore_n (eD DX8_manyRead 3 rfl) rfl (by decide) (Go.pick [2, 1, 0] rfl (k1)))))
set_option maxRecDepth 20000 in
theorem tX8_manyRead_4 {r : Option eV} {w9 : eW} (w : eW) (n k : Int) (hk : 0 ≤ k ∧ k ≤ 140) (k1 : k < 140 → Go mX8_manyRead 4 [(0, eR 33), (1, (0, n + (w 35 k))), (2, (0, k + 1))] [] w r w9) (k2 : ¬ (k < 140) → r = some (0, n) ∧ w9 = w) : Go mX8_manyRead 4 [(0, eR 33), (1, (0, n)), (2, (0, k))] [] w r w9 := by
  refine go_iload_n (eD DX8_manyRead 4 rfl) rfl rfl (go_sipush (eD DX8_manyRead 5 rfl) (by decide) (?_))
  by_cases h1 : k < 140
  · refine go_icmp_geF (tgt := 26) (eD DX8_manyRead 6 rfl) rfl (by omega) (by decide) (Int.not_le.mpr h1) ?_
    exact go_iload_n (eD DX8_manyRead 7 rfl) rfl rfl (go_aload_n (eD DX8_manyRead 8 rfl) rfl rfl (go_getR (t := 35) (eD DX8_manyRead 9 rfl) fX8_17 (by decide) rfl ⟨rfl, rfl⟩ (go_iload_n (eD DX8_manyRead 10 rfl) rfl rfl (go_iald (n := 140) (eD DX8_manyRead 11 rfl) (by decide) rfl (by omega) (go_iadd (eD DX8_manyRead 12 rfl) (go_istore_n (eD DX8_manyRead 13 rfl) rfl (by decide) (go_iinc (eD DX8_manyRead 14 rfl) rfl (by decide) (go_goto (tgt := 4) (eD DX8_manyRead 15 rfl) rfl (Go.pick [2, 1, 0] rfl (k1 h1))))))))))
  · refine go_icmp_geT (tgt := 26) (eD DX8_manyRead 6 rfl) rfl (by omega) (by decide) (Int.not_lt.mp h1) ?_
    rw [(k2 h1).1, (k2 h1).2]
    exact go_iload_n (eD DX8_manyRead 16 rfl) rfl rfl (go_iret (eD DX8_manyRead 17 rfl) rfl)
theorem y_X8_manyRead (w : eW) : Cal mX8_manyRead [eR 33] w (some (0, sumI (w 35) 0 140)) w := by
  refine Cal.of (by decide +kernel) (Nat.le_of_ble_eq_true rfl) (tX8_manyRead_0 w ?_)
  refine loop_up (P := fun k => Go mX8_manyRead 4 [(0, eR 33), (1, (0, sumI (w 35) 0 k)), (2, (0, k))] [] w (some (0, sumI (w 35) 0 140)) w) 0 140 ?_ ?_ 0 (by omega) (by omega)
  · apply tX8_manyRead_4 w _ _ (by omega)
    all_goals (intros; first | omega | exact ⟨rfl, rfl⟩)
  · intro k h1 h2 ih
    rw [sumI_succ _ h1] at ih
    apply tX8_manyRead_4 w _ _ (by omega)
    all_goals (intros; first | omega | exact ih)
set_option maxRecDepth 20000 in
theorem tX8_remembers_0 {r : Option eV} {w9 : eW} (w : eW) (ha : 0 ≤ w 33 27 ∧ w 33 27 ≤ 10) (k1 : (w 33 27) = 10 → Go mX8_remembers 21 [(0, eR 33), (1, (0, 0))] [] (eU w 33 27 ((w 33 27) - 1)) r w9) (k2 : ¬ ((w 33 27) = 10) → Go mX8_remembers 55 [(0, eR 33)] [] w r w9) : Go mX8_remembers 0 [(0, eR 33)] [] w r w9 := by
  refine go_aload_n (eD DX8_remembers 0 rfl) rfl rfl (go_getI (kz := 27) (eD DX8_remembers 1 rfl) fX8_225 (by decide) rfl rfl rfl (go_bipush (eD DX8_remembers 2 rfl) (by decide) (?_)))
  by_cases h1 : (w 33 27) = 10
  · refine go_icmp_neF (tgt := 55) (eD DX8_remembers 3 rfl) rfl (show eI (w 33 27) from by omega) (by decide) (not_not_intro h1) ?_
    exact go_aload_n (eD DX8_remembers 4 rfl) rfl rfl (go_dup (eD DX8_remembers 5 rfl) (by decide) (go_getI (kz := 27) (eD DX8_remembers 6 rfl) fX8_225 (by decide) rfl rfl rfl (go_iconst (eD DX8_remembers 7 rfl) (go_isub (eD DX8_remembers 8 rfl) (go_putI (kz := 27) (eD DX8_remembers 9 rfl) fX8_225 (by decide) rfl rfl (fun q h => by cases h; exact ⟨rfl, rfl⟩) rfl (go_iconst (eD DX8_remembers 10 rfl) (go_istore_n (eD DX8_remembers 11 rfl) rfl (by decide) (Go.pick [1, 0] rfl (k1 h1)))))))))
  · refine go_icmp_neT (tgt := 55) (eD DX8_remembers 3 rfl) rfl (show eI (w 33 27) from by omega) (by decide) h1 ?_
    exact Go.pick [0] rfl (k2 h1)
set_option maxRecDepth 20000 in
theorem tX8_remembers_21 {r : Option eV} {w9 : eW} (w : eW) (k : Int) (ha : w 33 27 = 9) (hk : 0 ≤ k ∧ k ≤ 1296) (k1 : k < ((w 33 27) * 144) → Go mX8_remembers 21 [(0, eR 33), (1, (0, k + 1))] [] (eU w 39 k (w 39 (k + 144))) r w9) (k2 : ¬ (k < ((w 33 27) * 144)) → Go mX8_remembers 55 [(0, eR 33)] [] w r w9) : Go mX8_remembers 21 [(0, eR 33), (1, (0, k))] [] w r w9 := by
  refine go_iload_n (eD DX8_remembers 12 rfl) rfl rfl (go_aload_n (eD DX8_remembers 13 rfl) rfl rfl (go_getI (kz := 27) (eD DX8_remembers 14 rfl) fX8_225 (by decide) rfl rfl rfl (go_sipush (eD DX8_remembers 15 rfl) (by decide) (go_imul (eD DX8_remembers 16 rfl) (?_)))))
  by_cases h1 : k < ((w 33 27) * 144)
  · refine go_icmp_geF (tgt := 55) (eD DX8_remembers 17 rfl) rfl (by omega) (show eI ((w 33 27) * 144) from by omega) (Int.not_le.mpr h1) ?_
    exact go_aload_n (eD DX8_remembers 18 rfl) rfl rfl (go_getR (t := 39) (eD DX8_remembers 19 rfl) fX8_29 (by decide) rfl ⟨rfl, rfl⟩ (go_iload_n (eD DX8_remembers 20 rfl) rfl rfl (go_aload_n (eD DX8_remembers 21 rfl) rfl rfl (go_getR (t := 39) (eD DX8_remembers 22 rfl) fX8_29 (by decide) rfl ⟨rfl, rfl⟩ (go_iload_n (eD DX8_remembers 23 rfl) rfl rfl (go_sipush (eD DX8_remembers 24 rfl) (by decide) (go_iadd (eD DX8_remembers 25 rfl) (go_iald (n := 1440) (eD DX8_remembers 26 rfl) (by decide) rfl (by omega) (go_iast (n := 1440) (eD DX8_remembers 27 rfl) (by decide) rfl (by omega) (go_iinc (eD DX8_remembers 28 rfl) rfl (by decide) (go_goto (tgt := 21) (eD DX8_remembers 29 rfl) rfl (Go.pick [1, 0] rfl (k1 h1)))))))))))))
  · refine go_icmp_geT (tgt := 55) (eD DX8_remembers 17 rfl) rfl (by omega) (show eI ((w 33 27) * 144) from by omega) (Int.not_lt.mp h1) ?_
    exact Go.pick [0] rfl (k2 h1)
set_option maxRecDepth 20000 in
theorem tX8_remembers_55 {r : Option eV} {w9 : eW} (w : eW) (k1 : Go mX8_remembers 57 [(0, eR 33), (1, (0, 0))] [] w r w9) : Go mX8_remembers 55 [(0, eR 33)] [] w r w9 := by
  exact go_iconst (eD DX8_remembers 30 rfl) (go_istore_n (eD DX8_remembers 31 rfl) rfl (by decide) (Go.pick [1, 0] rfl (k1)))
set_option maxRecDepth 20000 in
theorem tX8_remembers_57 {r : Option eV} {w9 : eW} (w : eW) (k : Int) (ha : 0 ≤ w 33 27 ∧ w 33 27 ≤ 9) (hk : 0 ≤ k ∧ k ≤ 144) (k1 : k < 144 → Go mX8_remembers 57 [(0, eR 33), (1, (0, k + 1))] [] (eU w 39 (((w 33 27) * 144) + k) (w 38 k)) r w9) (k2 : ¬ (k < 144) → r = none ∧ w9 = (eU w 33 27 ((w 33 27) + 1))) : Go mX8_remembers 57 [(0, eR 33), (1, (0, k))] [] w r w9 := by
  refine go_iload_n (eD DX8_remembers 32 rfl) rfl rfl (go_sipush (eD DX8_remembers 33 rfl) (by decide) (?_))
  by_cases h1 : k < 144
  · refine go_icmp_geF (tgt := 91) (eD DX8_remembers 34 rfl) rfl (by omega) (by decide) (Int.not_le.mpr h1) ?_
    exact go_aload_n (eD DX8_remembers 35 rfl) rfl rfl (go_getR (t := 39) (eD DX8_remembers 36 rfl) fX8_29 (by decide) rfl ⟨rfl, rfl⟩ (go_aload_n (eD DX8_remembers 37 rfl) rfl rfl (go_getI (kz := 27) (eD DX8_remembers 38 rfl) fX8_225 (by decide) rfl rfl rfl (go_sipush (eD DX8_remembers 39 rfl) (by decide) (go_imul (eD DX8_remembers 40 rfl) (go_iload_n (eD DX8_remembers 41 rfl) rfl rfl (go_iadd (eD DX8_remembers 42 rfl) (go_aload_n (eD DX8_remembers 43 rfl) rfl rfl (go_getR (t := 38) (eD DX8_remembers 44 rfl) fX8_26 (by decide) rfl ⟨rfl, rfl⟩ (go_iload_n (eD DX8_remembers 45 rfl) rfl rfl (go_iald (n := 144) (eD DX8_remembers 46 rfl) (by decide) rfl (by omega) (go_iast (n := 1440) (eD DX8_remembers 47 rfl) (by decide) rfl (show 0 ≤ (((w 33 27) * 144) + k) ∧ (((w 33 27) * 144) + k) < 1440 from by omega) (go_iinc (eD DX8_remembers 48 rfl) rfl (by decide) (go_goto (tgt := 57) (eD DX8_remembers 49 rfl) rfl (Go.pick [1, 0] rfl (k1 h1))))))))))))))))
  · refine go_icmp_geT (tgt := 91) (eD DX8_remembers 34 rfl) rfl (by omega) (by decide) (Int.not_lt.mp h1) ?_
    rw [(k2 h1).1, (k2 h1).2]
    exact go_aload_n (eD DX8_remembers 50 rfl) rfl rfl (go_dup (eD DX8_remembers 51 rfl) (by decide) (go_getI (kz := 27) (eD DX8_remembers 52 rfl) fX8_225 (by decide) rfl rfl rfl (go_iconst (eD DX8_remembers 53 rfl) (go_iadd (eD DX8_remembers 54 rfl) (go_putI (kz := 27) (eD DX8_remembers 55 rfl) fX8_225 (by decide) rfl rfl (fun q h => by cases h; exact ⟨rfl, rfl⟩) rfl (go_vret (eD DX8_remembers 56 rfl) rfl))))))
/-- behind an act's beginning: the house as it was is kept, the eldest of ten goes -/
def wRemA (w : eW) : eW := if w 33 27 = 10 then eSet (eU w 33 27 9) 39 0 1296 (fun j => w 39 (j + 144)) else w
def wRem (w : eW) : eW := eU (eSet (wRemA w) 39 (wRemA w 33 27 * 144) 144 (wRemA w 38)) 33 27 (wRemA w 33 27 + 1)
theorem wRemA_acts {w : eW} (ha : 0 ≤ w 33 27 ∧ w 33 27 ≤ 10) : wRemA w 33 27 = if w 33 27 = 10 then 9 else w 33 27 := by
  unfold wRemA
  by_cases h : w 33 27 = 10
  · rw [if_pos h, if_pos h, eSet_ne (by decide), eU_get, if_pos rfl]
  · rw [if_neg h, if_neg h]
theorem y_X8_remembers (w : eW) (ha : 0 ≤ w 33 27 ∧ w 33 27 ≤ 10) : Cal mX8_remembers [eR 33] w none (wRem w) := by
  refine Cal.of (by decide +kernel) (Nat.le_of_ble_eq_true rfl) ?_
  have e1 := wRemA_acts ha
  have second : Go mX8_remembers 55 [(0, eR 33)] [] (wRemA w) none (wRem w) := by
    refine tX8_remembers_55 _ ?_
    have hb : 0 ≤ wRemA w 33 27 ∧ wRemA w 33 27 ≤ 9 := by rw [e1]; split <;> omega
    refine loop_set (w := wRemA w) (o := 39) (a := wRemA w 33 27 * 144) (N := 144) (g := wRemA w 38) (P := fun k w0 => Go mX8_remembers 57 [(0, eR 33), (1, (0, k))] [] w0 none (wRem w)) (by omega) ?_ ?_
    · have e2 : eSet (wRemA w) 39 (wRemA w 33 27 * 144) 144 (wRemA w 38) 33 27 = wRemA w 33 27 := by rw [eSet_ne (by decide)]
      apply tX8_remembers_57 _ _ (by rw [e2]; exact hb) (by omega)
      · intro h; omega
      · intro _
        rw [e2]
        exact ⟨rfl, rfl⟩
    · intro k h1 h2 ih
      have e2 : eSet (wRemA w) 39 (wRemA w 33 27 * 144) k (wRemA w 38) 33 27 = wRemA w 33 27 := by rw [eSet_ne (by decide)]
      have e3 : eSet (wRemA w) 39 (wRemA w 33 27 * 144) k (wRemA w 38) 38 = wRemA w 38 := eSet_ne (by decide)
      apply tX8_remembers_57 _ _ (by rw [e2]; exact hb) (by omega)
      · intro _
        rw [e2, e3]
        exact ih
      · intro h; omega
  by_cases h10 : w 33 27 = 10
  · have e4 : wRemA w = eSet (eU w 33 27 9) 39 0 1296 (fun j => w 39 (j + 144)) := by unfold wRemA; rw [if_pos h10]
    rw [e4] at second
    apply tX8_remembers_0 w ha
    · intro _
      rw [h10]
      refine loop_set (w := eU w 33 27 9) (o := 39) (a := 0) (N := 1296) (g := fun j => w 39 (j + 144)) (P := fun k w0 => Go mX8_remembers 21 [(0, eR 33), (1, (0, k))] [] w0 none (wRem w)) (by omega) ?_ ?_
      · have e2 : eSet (eU w 33 27 9) 39 0 1296 (fun j => w 39 (j + 144)) 33 27 = 9 := by rw [eSet_ne (by decide), eU_get, if_pos rfl]
        apply tX8_remembers_21 _ _ e2 (by omega)
        · intro h; rw [e2] at h; omega
        · intro _; exact second
      · intro k h1 h2 ih
        have e2 : eSet (eU w 33 27 9) 39 0 k (fun j => w 39 (j + 144)) 33 27 = 9 := by rw [eSet_ne (by decide), eU_get, if_pos rfl]
        have e3 : eSet (eU w 33 27 9) 39 0 k (fun j => w 39 (j + 144)) 39 (k + 144) = w 39 (k + 144) := by rw [eSet_at, if_neg (by omega), eU_ne (by decide)]
        apply tX8_remembers_21 _ _ e2 (by omega)
        · intro _
          rw [e3]
          rw [Int.zero_add] at ih
          exact ih
        · intro h; rw [e2] at h; omega
    · intro h; exact absurd h10 h
  · have e4 : wRemA w = w := by unfold wRemA; rw [if_neg h10]
    rw [e4] at second
    apply tX8_remembers_0 w ha
    · intro h; exact absurd h h10
    · intro _; exact second
