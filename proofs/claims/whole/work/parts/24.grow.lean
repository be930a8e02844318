theorem eU_same (w : eW) (o : Nat) (i u v : Int) : eU (eU w o i u) o i v = eU w o i v := by
  funext k
  by_cases h : k = o
  · subst h
    funext j
    rw [eU_get, eU_get, eU_get]
    split <;> rfl
  · rw [eU_ne h, eU_ne h, eU_ne h]
theorem insM_of {w w0 : eW} (h24 : w0 33 24 = w 33 24) (h25 : w0 33 25 = w 33 25) (h38 : w0 38 = w 38) (x y : Int) : insM w0 x y = insM w x y := by
  unfold insM
  rw [h24, h25, h38]
/-- a cell of the frame that has one inside beside it -/
def gwC (w : eW) (j : Int) : Prop := j < 140 ∧ j % 14 < w 33 24 ∧ j / 14 < w 33 25 ∧ (insM w (j % 14) (j / 14 - 1) ∨ insM w (j % 14 + 1) (j / 14) ∨ insM w (j % 14) (j / 14 + 1) ∨ insM w (j % 14 - 1) (j / 14))
def gwR (w w0 : eW) (y x : Int) : Prop := ∀ j, 0 ≤ j → j < 140 → (gwC w j ∧ (j / 14 < y ∨ (j / 14 = y ∧ j % 14 < x)) → w0 35 j = 1) ∧ (¬ (gwC w j ∧ (j / 14 < y ∨ (j / 14 = y ∧ j % 14 < x))) → w0 35 j = w 38 j)
theorem y_X8_grow (w : eW) (hM : MB w) (hh : w 33 28 = 1) : ∃ w1, Cal mX8_grow [eR 33] w (some (0, sumI (w1 38) 0 140 - sumI (w 38) 0 140)) w1 ∧ Fr [35, 38] (eU (eU (wRem (eU w 33 0 0)) 33 1 0) 33 2 (-1)) w1 ∧ (∀ j, 0 ≤ j → j < 140 → (gwC w j → w1 38 j = 1) ∧ (¬ gwC w j → w1 38 j = w 38 j)) ∧ ∀ j, 140 ≤ j → w1 38 j = w 38 j := by
  obtain ⟨⟨c1, c2, c3, c4, c5, c6, c7, c8, c9, c10⟩, c11, c12, c13⟩ := id hM
  have hM0 : MB (eU w 33 0 0) := MB_put hM (by omega)
  have hMr := MB_rem hM0
  have e24 : wRem (eU w 33 0 0) 33 24 = w 33 24 := by rw [wRem_33 _ (by decide)]; rfl
  have e25 : wRem (eU w 33 0 0) 33 25 = w 33 25 := by rw [wRem_33 _ (by decide)]; rfl
  have e38 : wRem (eU w 33 0 0) 38 = w 38 := by rw [wRem_now]; rfl
  -- the last loop: the read cells become the house's
  have last : ∀ w0, Fr [35] (wRem (eU w 33 0 0)) w0 → gwR w w0 10 0 → ∃ w1, Go mX8_grow 134 [(0, eR 33), (1, (0, sumI (w 38) 0 140)), (2, (0, 0))] [] w0 (some (0, sumI (w1 38) 0 140 - sumI (w 38) 0 140)) w1 ∧ Fr [35, 38] (eU (eU (wRem (eU w 33 0 0)) 33 1 0) 33 2 (-1)) w1 ∧ (∀ j, 0 ≤ j → j < 140 → (gwC w j → w1 38 j = 1) ∧ (¬ gwC w j → w1 38 j = w 38 j)) ∧ ∀ j, 140 ≤ j → w1 38 j = w 38 j := by
    intro w0 hF hG
    refine ⟨eU (eU (eSet w0 38 0 140 (w0 35)) 33 1 0) 33 2 (-1), ?_, ?_, ?_, ?_⟩
    · refine loop_set (w := w0) (o := 38) (a := 0) (N := 140) (g := w0 35) (P := fun k w2 => Go mX8_grow 134 [(0, eR 33), (1, (0, sumI (w 38) 0 140)), (2, (0, k))] [] w2 (some (0, sumI (eU (eU (eSet w0 38 0 140 (w0 35)) 33 1 0) 33 2 (-1) 38) 0 140 - sumI (w 38) 0 140)) (eU (eU (eSet w0 38 0 140 (w0 35)) 33 1 0) 33 2 (-1))) (by omega) ?_ ?_
      · apply tX8_grow_134 _ _ _ (by omega)
        · intro h; omega
        · intro _
          exact ⟨rfl, rfl⟩
      · intro k h1 h2 ih
        have e35 : eSet w0 38 0 k (w0 35) 35 = w0 35 := eSet_ne (by decide)
        apply tX8_grow_134 _ _ _ (by omega)
        · intro _
          rw [e35]
          rw [Int.zero_add] at ih
          exact ih
        · intro h; omega
    · intro k hk
      simp only [List.mem_cons, List.not_mem_nil, or_false, not_or] at hk
      by_cases h33 : k = 33
      · subst h33
        funext j
        rw [eU_get, eU_get, eU_get, eU_get, eSet_ne (by decide), hF 33 (by decide)]
      · rw [eU_ne h33, eU_ne h33, eU_ne h33, eU_ne h33, eSet_ne hk.2]
        exact hF k (by simp [hk.1])
    · intro j h1 h2
      rw [eU_ne (by decide), eU_ne (by decide), eSet_at, if_pos (by omega), show j - 0 = j by omega]
      have := hG j h1 h2
      refine ⟨fun h => this.1 ⟨h, by omega⟩, fun h => this.2 (fun q => h q.1)⟩
    · intro j h1
      rw [eU_ne (by decide), eU_ne (by decide), eSet_at, if_neg (by omega), hF 38 (by decide), e38]
  have mid := loop_up (P := fun y => ∀ w0, Fr [35] (wRem (eU w 33 0 0)) w0 → gwR w w0 y 0 → ∃ w1, Go mX8_grow 56 [(0, eR 33), (1, (0, sumI (w 38) 0 140)), (2, (0, y))] [] w0 (some (0, sumI (w1 38) 0 140 - sumI (w 38) 0 140)) w1 ∧ Fr [35, 38] (eU (eU (wRem (eU w 33 0 0)) 33 1 0) 33 2 (-1)) w1 ∧ (∀ j, 0 ≤ j → j < 140 → (gwC w j → w1 38 j = 1) ∧ (¬ gwC w j → w1 38 j = w 38 j)) ∧ ∀ j, 140 ≤ j → w1 38 j = w 38 j) 0 (w 33 25) ?_ ?_ 0 (by omega) (by omega)
  · -- the first loop
    have e35 : ∀ k, eSet (wRem (eU w 33 0 0)) 35 0 k (w 38) 38 = w 38 := fun k => by rw [eSet_ne (by decide), e38]
    obtain ⟨w1, h1, h2, h3⟩ := mid (eSet (wRem (eU w 33 0 0)) 35 0 140 (w 38)) (fun k hk => by
      simp only [List.mem_cons, List.not_mem_nil, or_false] at hk
      exact eSet_ne hk) (fun j h1 h2 => by
      have hv : eSet (wRem (eU w 33 0 0)) 35 0 140 (w 38) 35 j = w 38 j := by rw [eSet_at, if_pos (by omega), show j - 0 = j by omega]
      exact ⟨fun q => absurd q.2 (by omega), fun _ => hv⟩)
    refine ⟨w1, Cal.of (by decide +kernel) (Nat.le_of_ble_eq_true rfl) (tX8_grow_0 w hM (fun h => by omega) (fun _ => ?_)), h2, h3⟩
    rw [e38]
    refine loop_set (w := wRem (eU w 33 0 0)) (o := 35) (a := 0) (N := 140) (g := w 38) (P := fun k w2 => Go mX8_grow 29 [(0, eR 33), (1, (0, sumI (w 38) 0 140)), (2, (0, k))] [] w2 (some (0, sumI (w1 38) 0 140 - sumI (w 38) 0 140)) w1) (by omega) ?_ ?_
    · apply tX8_grow_29 _ _ _ (by omega)
      · intro h; omega
      · intro _; exact h1
    · intro k g1 g2 ih
      apply tX8_grow_29 _ _ _ (by omega)
      · intro _
        rw [e35]
        rw [Int.zero_add] at ih
        exact ih
      · intro h; omega
  · intro w0 hF hG
    have f25 : w0 33 25 = w 33 25 := by rw [hF 33 (by decide), e25]
    have hM1 : MB w0 := MB_fr hF hMr (by decide)
    obtain ⟨w1, h1, h2⟩ := last w0 hF (fun j g1 g2 => by
      have := hG j g1 g2
      have hq : (gwC w j ∧ (j / 14 < 10 ∨ j / 14 = 10 ∧ j % 14 < 0)) ↔ (gwC w j ∧ (j / 14 < w 33 25 ∨ j / 14 = w 33 25 ∧ j % 14 < 0)) := ⟨fun q => ⟨q.1, Or.inl q.1.2.2.1⟩, fun q => ⟨q.1, by omega⟩⟩
      rw [hq]
      exact this)
    refine ⟨w1, ?_, h2⟩
    apply tX8_grow_56 w0 _ _ hM1 (by omega)
    all_goals (intros; first | omega | exact h1)
  · intro y hy1 hy2 ih w0 hF hG
    have f25 : w0 33 25 = w 33 25 := by rw [hF 33 (by decide), e25]
    have hM1 : MB w0 := MB_fr hF hMr (by decide)
    have row := loop_up (P := fun x => ∀ w0, Fr [35] (wRem (eU w 33 0 0)) w0 → gwR w w0 y x → ∃ w1, Fr [35] (wRem (eU w 33 0 0)) w1 ∧ gwR w w1 y (w 33 24) ∧ ∀ (r : Option eV) (w9 : eW), Go mX8_grow 66 [(0, eR 33), (1, (0, sumI (w 38) 0 140)), (2, (0, y)), (3, (0, w 33 24))] [] w1 r w9 → Go mX8_grow 66 [(0, eR 33), (1, (0, sumI (w 38) 0 140)), (2, (0, y)), (3, (0, x))] [] w0 r w9) 0 (w 33 24) (fun w0 hF hG => ⟨w0, hF, hG, fun _ _ h => h⟩) ?_ 0 (by omega) (by omega) w0 hF hG
    · obtain ⟨wr, hFr, hGr, hgo⟩ := row
      have hMw : MB wr := MB_fr hFr hMr (by decide)
      have g24 : wr 33 24 = w 33 24 := by rw [hFr 33 (by decide), e24]
      have g25 : wr 33 25 = w 33 25 := by rw [hFr 33 (by decide), e25]
      obtain ⟨w1, i1, i2⟩ := ih wr hFr (fun j g1 g2 => by
        have := hGr j g1 g2
        have hq : (gwC w j ∧ (j / 14 < y + 1 ∨ j / 14 = y + 1 ∧ j % 14 < 0)) ↔ (gwC w j ∧ (j / 14 < y ∨ j / 14 = y ∧ j % 14 < w 33 24)) := ⟨fun q => ⟨q.1, by have := q.1.2.1; omega⟩, fun q => ⟨q.1, by omega⟩⟩
        rw [hq]
        exact this)
      refine ⟨w1, ?_, i2⟩
      apply tX8_grow_56 w0 _ _ hM1 (by omega)
      · intro _
        refine hgo _ _ ?_
        apply tX8_grow_66 wr _ _ _ hMw (by omega) (by omega)
        all_goals (intros; first | omega | exact i1)
      · intro h; omega
    · intro x hx1 hx2 ihx w0 hF hG
      have hM2 : MB w0 := MB_fr hF hMr (by decide)
      have f24 : w0 33 24 = w 33 24 := by rw [hF 33 (by decide), e24]
      have f25 : w0 33 25 = w 33 25 := by rw [hF 33 (by decide), e25]
      have f38 : w0 38 = w 38 := by rw [hF 38 (by decide), e38]
      have cw : ∀ a b, insM w0 a b → insM w a b := fun a b h => (insM_of f24 f25 f38 a b) ▸ h
      have cv : ∀ a b, ¬ insM w0 a b → ¬ insM w a b := fun a b h q => h ((insM_of f24 f25 f38 a b).symm ▸ q)
      have ej : (14 * y + x) % 14 = x ∧ (14 * y + x) / 14 = y := by omega
      have hgw : gwC w (14 * y + x) ↔ (insM w x (y - 1) ∨ insM w (x + 1) y ∨ insM w x (y + 1) ∨ insM w (x - 1) y) := by
        unfold gwC
        rw [ej.1, ej.2]
        exact ⟨fun q => q.2.2.2, fun q => ⟨by omega, by omega, by omega, q⟩⟩
      by_cases hg : gwC w (14 * y + x)
      · obtain ⟨w1, i1, i2, i3⟩ := ihx (eU w0 35 (14 * y + x) 1) (hF.put (by decide)) (fun j g1 g2 => by
          rw [eU_get]
          by_cases hj : j = 14 * y + x
          · rw [if_pos hj]
            exact ⟨fun _ => rfl, fun q => absurd ⟨by rw [hj]; exact hg, by omega⟩ q⟩
          · rw [if_neg hj]
            have hq : (gwC w j ∧ (j / 14 < y ∨ j / 14 = y ∧ j % 14 < x + 1)) ↔ (gwC w j ∧ (j / 14 < y ∨ j / 14 = y ∧ j % 14 < x)) := ⟨fun q => ⟨q.1, by omega⟩, fun q => ⟨q.1, by omega⟩⟩
            rw [hq]
            exact hG j g1 g2)
        refine ⟨w1, i1, i2, fun r w9 h => ?_⟩
        have hfin := i3 r w9 h
        have hg2 := hgw.mp hg
        apply tX8_grow_66 w0 _ _ _ hM2 (by omega) (by omega)
        all_goals (intros; (try simp only [eU_same]); first | with_reducible exact hfin | (exfalso; rcases hg2 with q | q | q | q <;> exact absurd q (cv _ _ (by assumption))) | omega)
      · obtain ⟨w1, i1, i2, i3⟩ := ihx w0 hF (fun j g1 g2 => by
          have hq : (gwC w j ∧ (j / 14 < y ∨ j / 14 = y ∧ j % 14 < x + 1)) ↔ (gwC w j ∧ (j / 14 < y ∨ j / 14 = y ∧ j % 14 < x)) := ⟨fun q => ⟨q.1, by
            rcases Int.lt_or_le (j % 14) x with h | h
            · omega
            · have : j ≠ 14 * y + x := fun e => hg (by rw [← e]; exact q.1)
              omega⟩, fun q => ⟨q.1, by omega⟩⟩
          rw [hq]
          exact hG j g1 g2)
        refine ⟨w1, i1, i2, fun r w9 h => ?_⟩
        have hfin := i3 r w9 h
        have hn := mt hgw.mpr hg
        simp only [not_or] at hn
        obtain ⟨n1, n2, n3, n4⟩ := hn
        apply tX8_grow_66 w0 _ _ _ hM2 (by omega) (by omega)
        all_goals (intros; first | with_reducible exact hfin | (exfalso; first | exact n1 (cw _ _ (by assumption)) | exact n2 (cw _ _ (by assumption)) | exact n3 (cw _ _ (by assumption)) | exact n4 (cw _ _ (by assumption))) | omega)
