theorem y_X4_takeA25 (w : eW) {F : eP} (hF : SB w 25 F) : ∃ w2 fo, (∀ (r : Option eV) (w9 : eW), Go mX4_takePart 59 [(0, eR 25), (1, eR 27), (2, (0, fo)), (3, (0, fo)), (4, (0, 0))] [] w2 r w9 → Go mX4_takePart 9 [(0, eR 25), (1, eR 27), (2, (0, 0)), (3, (0, 0))] [] (eFill w 27 10 0) r w9) ∧ Fr [27] w w2 ∧ ((fo = 0 ∧ (∀ x y, ¬ F x y) ∧ SB w2 27 (fun _ _ => False)) ∨ (fo = 1 ∧ ∃ x0 y0, isMn F x0 y0 ∧ SB w2 27 (fun a b => a = x0 ∧ b = y0))) := by
  have key := loop_up (P := fun y => ∀ w0, Fr [27] w w0 → (∀ j, 0 ≤ j → j < 10 → w0 27 j = 0) → (∀ x j, j < y → ¬ F x j) → ∃ w2 fo, (∀ (r : Option eV) (w9 : eW), Go mX4_takePart 59 [(0, eR 25), (1, eR 27), (2, (0, fo)), (3, (0, fo)), (4, (0, 0))] [] w2 r w9 → Go mX4_takePart 9 [(0, eR 25), (1, eR 27), (2, (0, 0)), (3, (0, y))] [] w0 r w9) ∧ Fr [27] w w2 ∧ ((fo = 0 ∧ (∀ x y, ¬ F x y) ∧ SB w2 27 (fun _ _ => False)) ∨ (fo = 1 ∧ ∃ x0 y0, isMn F x0 y0 ∧ SB w2 27 (fun a b => a = x0 ∧ b = y0)))) 0 10 ?_ ?_ 0 (by omega) (by omega) (eFill w 27 10 0) (fun k hk => eFill_ne (fun z => hk (by rw [z]; decide))) (fun j h1 h2 => by rw [eFill_at, if_pos ⟨h1, h2⟩]) (fun x j hj q => by have := hF.2 x j q; omega)
  · exact key
  · intro w0 f0 h0 hn
    refine ⟨w0, 0, fun r w9 h => ?_, f0, Or.inl ⟨rfl, fun x y q => hn x y (by have := hF.2 x y q; omega) q, fun y h1 h2 => ?_, fun a b z => z.elim⟩⟩
    · apply tX4_takePart25_9 w0 _ _ (Or.inl rfl) (by omega) (SB_b (SB_fr f0 (by decide) hF))
      all_goals (intros; first | with_reducible exact h | (exfalso; omega))
    · rw [h0 y h1 h2]
      exact ⟨by omega, fun x => ⟨fun q => absurd q (hb_no0 x), fun z => z.elim⟩⟩
  · intro y hy1 hy2 ih w0 f0 h0 hn
    have hF0 := SB_fr f0 (by decide) hF
    have fy := hF0.1 y hy1 hy2
    by_cases hz : w0 25 y = 0
    · have e0 : eAnd (w0 25 y) (-(w0 25 y)) = 0 := by rw [hz]; decide
      obtain ⟨w2, fo, k1, k2⟩ := ih (eU w0 27 y 0) (f0.put (by decide)) (fun j h1 h2 => by rw [eU_get]; split; rfl; exact h0 j h1 h2) (fun x j hj q => by
        by_cases hc : j = y
        · rw [hc] at q
          have := (fy.2 x).mpr q
          rw [hz] at this
          exact hb_no0 x this
        · exact hn x j (by omega) q)
      refine ⟨w2, fo, fun r w9 h => ?_, k2⟩
      have k3 := k1 r w9 h
      apply tX4_takePart25_9 w0 _ _ (Or.inl rfl) (by omega) (SB_b hF0)
      · intro _ _ _; rw [e0]; exact k3
      · intro _ _ z; exact absurd hz z
      · intro _ z; exact absurd rfl z
      · intro z; omega
    · obtain ⟨x0, l1, l2, l3, l4⟩ := hb_low fy.1 hz
      have f1 : Fr [27] w (eU w0 27 y (eAnd (w0 25 y) (-(w0 25 y)))) := f0.put (by decide)
      refine ⟨eU w0 27 y (eAnd (w0 25 y) (-(w0 25 y))), 1, fun r w9 h => ?_, f1, Or.inr ⟨rfl, x0, y, ⟨(fy.2 x0).mp l1, fun a b q hr => ?_⟩, fun j h1 h2 => ?_, fun a b q => ?_⟩⟩
      · apply tX4_takePart25_9 w0 _ _ (Or.inl rfl) (by omega) (SB_b hF0)
        · intro _ _ z; exact absurd z hz
        · intro _ _ _
          apply tX4_takePart25_9 _ _ _ (Or.inr rfl) (by omega) (SB_b (SB_fr f1 (by decide) hF))
          · intro _ z; exact absurd z (by decide)
          · intro _ z; exact absurd z (by decide)
          · intro _ _; exact h
          · intro _; exact h
        · intro _ z; exact absurd rfl z
        · intro z; omega
      · rcases hr with hr | hr
        · exact hn a b hr q
        · rw [hr.1] at q
          have := l2 a ((fy.2 a).mpr q)
          omega
      · rw [eU_get]
        by_cases hj : j = y
        · rw [if_pos hj]
          exact ⟨l3, fun x => by rw [l4, hj]; exact ⟨fun z => ⟨z, rfl⟩, fun z => z.1⟩⟩
        · rw [if_neg hj, h0 j h1 h2]
          exact ⟨by omega, fun x => ⟨fun z => absurd z (hb_no0 x), fun z => absurd z.2 hj⟩⟩
      · rw [q.1, q.2]
        have := l1.1
        have := l1.2.1
        omega
theorem y_X4_takeB25 {F : eP} {x0 y0 : Int} (hm : F x0 y0) : ∀ (n : Nat) (w3 : eW) (k gr : Int) (t : eP), SB w3 25 F → SB w3 27 t → (∀ a b, t a b → F a b) → (∀ a b, t a b → cn F x0 y0 a b) → t x0 y0 → (gr = 0 → cl F t) → (gr = 0 ∨ gr = 1) → ctF 14 10 F - ctF 14 10 t ≤ n → 0 ≤ k → (gr = 1 → k + n ≤ 139) → k ≤ 140 → ∃ w4, (∀ (r : Option eV) (w9 : eW), Go mX4_takePart 86 [(0, eR 25), (1, eR 27), (2, (0, 1)), (4, (0, 0))] [] w4 r w9 → Go mX4_takePart 59 [(0, eR 25), (1, eR 27), (2, (0, 1)), (3, (0, gr)), (4, (0, k))] [] w3 r w9) ∧ Fr [27] w3 w4 ∧ SB w4 27 (cn F x0 y0) := by
  have done : ∀ (w3 : eW) (k : Int) (t : eP), SB w3 27 t → (∀ a b, t a b → cn F x0 y0 a b) → t x0 y0 → cl F t → 0 ≤ k → k ≤ 140 → ∃ w4, (∀ (r : Option eV) (w9 : eW), Go mX4_takePart 86 [(0, eR 25), (1, eR 27), (2, (0, 1)), (4, (0, 0))] [] w4 r w9 → Go mX4_takePart 59 [(0, eR 25), (1, eR 27), (2, (0, 1)), (3, (0, 0)), (4, (0, k))] [] w3 r w9) ∧ Fr [27] w3 w4 ∧ SB w4 27 (cn F x0 y0) := by
    intro w3 k t h1 h2 h3 h4 hk1 hk2
    have e : t = cn F x0 y0 := by
      funext a b
      exact propext ⟨h2 a b, fun q => q t h3 h4⟩
    rw [e] at h1
    refine ⟨w3, fun r w9 h => ?_, Fr.rf, h1⟩
    apply tX4_takePart25_59 w3 _ _ _ (w1 := w3) (gg := 0) (Or.inl rfl) (by omega) (fun _ z => absurd rfl z)
    · intro z; omega
    · intro _ _; exact h
    · intro _ z; exact absurd rfl z
  intro n
  induction n with
  | zero =>
    intro w3 k gr t h1 h2 h3 h4 h5 h6 h7 h8 h9 h10 h11
    rcases h7 with h7 | h7
    · subst h7
      exact done w3 k t h2 h4 h5 (h6 rfl) h9 h11
    · obtain ⟨w1, gg, t1, c1, c2, c3, c4, c5, c6, c7, c8, c9⟩ := y_X4_growPart25 w3 h1 h2 h3
      rcases c3 with c3 | c3
      · obtain ⟨w4, d1, d2, d3⟩ := done w1 (k + 1) t1 c4 (fun a b q => h4 a b ((c8 c3).2 a b q)) (c5 _ _ h5) (fun a b c d q1 q2 q3 => c5 _ _ ((c8 c3).1 a b c d ((c8 c3).2 a b q1) q2 q3)) (by omega) (by omega)
        refine ⟨w4, fun r w9 h => ?_, c2.tr d2, d3⟩
        have := d1 r w9 h
        rw [← c3] at this
        apply tX4_takePart25_59 w3 _ _ _ (Or.inr h7) (by omega) (fun _ _ => c1)
        · intro z; omega
        · intro _ z; omega
        · intro _ _; exact this
      · obtain ⟨a, b, q1, q2⟩ := c9 c3
        have l1 := ctF_lt (W := 14) (H := 10) c5 (c4.2 a b q1) q1 q2
        have l2 : ctF 14 10 t1 ≤ ctF 14 10 F := sumI_le (fun i _ _ => sumI_le (fun j _ _ => bI_le (c6 j i)))
        exact absurd h8 (by omega)
  | succ n ih =>
    intro w3 k gr t h1 h2 h3 h4 h5 h6 h7 h8 h9 h10 h11
    rcases h7 with h7 | h7
    · subst h7
      exact done w3 k t h2 h4 h5 (h6 rfl) h9 h11
    · obtain ⟨w1, gg, t1, c1, c2, c3, c4, c5, c6, c7, c8, c9⟩ := y_X4_growPart25 w3 h1 h2 h3
      have hcl : cl F (cn F x0 y0) := fun a b c d q1 q2 q3 => cn_st q1 q2 q3
      have fin : ∃ w4, (∀ (r : Option eV) (w9 : eW), Go mX4_takePart 86 [(0, eR 25), (1, eR 27), (2, (0, 1)), (4, (0, 0))] [] w4 r w9 → Go mX4_takePart 59 [(0, eR 25), (1, eR 27), (2, (0, 1)), (3, (0, gg)), (4, (0, k + 1))] [] w1 r w9) ∧ Fr [27] w1 w4 ∧ SB w4 27 (cn F x0 y0) := by
        have hk := h10 h7
        rcases c3 with c3 | c3
        · subst c3
          exact done w1 (k + 1) t1 c4 (fun a b q => h4 a b ((c8 rfl).2 a b q)) (c5 _ _ h5) (fun a b c d q1 q2 q3 => c5 _ _ ((c8 rfl).1 a b c d ((c8 rfl).2 a b q1) q2 q3)) (by omega) (by omega)
        · obtain ⟨a, b, q1, q2⟩ := c9 c3
          have l1 := ctF_lt (W := 14) (H := 10) c5 (c4.2 a b q1) q1 q2
          exact ih w1 (k + 1) gg t1 (SB_fr c2 (by decide) h1) c4 c6 (c7 _ hcl h4) (c5 _ _ h5) (fun z => by omega) (Or.inr c3) (by omega) (by omega) (fun _ => by omega) (by omega)
      obtain ⟨w4, d1, d2, d3⟩ := fin
      refine ⟨w4, fun r w9 h => ?_, c2.tr d2, d3⟩
      have := d1 r w9 h
      apply tX4_takePart25_59 w3 _ _ _ (Or.inr h7) (by omega) (fun _ _ => c1)
      · intro z; have := h10 h7; omega
      · intro _ z; omega
      · intro _ _; exact this
theorem y_X4_takeC25 (w : eW) (fo : Int) (hf : fo = 0 ∨ fo = 1) {F t : eP} (hF : SB w 25 F) (ht : SB w 27 t) : ∃ w1, Go mX4_takePart 86 [(0, eR 25), (1, eR 27), (2, (0, fo)), (4, (0, 0))] [] w (some (0, fo)) w1 ∧ Fr [25] w w1 ∧ SB w1 25 (fun a b => F a b ∧ ¬ t a b) := by
  have key := loop_up (P := fun k => ∀ w0, Fr [25] w w0 → (∀ j, 0 ≤ j → j < 10 → (0 ≤ w0 25 j ∧ w0 25 j < 16384) ∧ ∀ x, hb14 (w0 25 j) x ↔ (F x j ∧ (j < k → ¬ t x j))) → ∃ w1, Go mX4_takePart 86 [(0, eR 25), (1, eR 27), (2, (0, fo)), (4, (0, k))] [] w0 (some (0, fo)) w1 ∧ Fr [25] w w1 ∧ SB w1 25 (fun a b => F a b ∧ ¬ t a b)) 0 10 ?_ ?_ 0 (by omega) (by omega) w Fr.rf (fun j h1 h2 => ⟨(hF.1 j h1 h2).1, fun x => by rw [(hF.1 j h1 h2).2]; exact ⟨fun q => ⟨q, fun z => by omega⟩, fun q => q.1⟩⟩)
  · exact key
  · intro w0 f0 hI
    refine ⟨w0, ?_, f0, fun j h1 h2 => ⟨(hI j h1 h2).1, fun x => by rw [(hI j h1 h2).2]; exact ⟨fun q => ⟨q.1, q.2 h2⟩, fun q => ⟨q.1, fun _ => q.2⟩⟩⟩, fun a b q => hF.2 a b q.1⟩
    apply tX4_takePart25_86 w0 _ _ hf (by omega)
    · intro z; omega
    · intro _; exact ⟨rfl, rfl⟩
  · intro k hk1 hk2 ih w0 f0 hI
    have ht0 := SB_fr f0 (by decide) ht
    have a1 := hI k hk1 hk2
    have a2 := ht0.1 k hk1 hk2
    have an := andnot a1.1 a2.1
    obtain ⟨w1, k1, k2⟩ := ih (eU w0 25 k (eAnd (w0 25 k) (eXor (w0 27 k) (-1)))) (f0.put (by decide)) (fun j h1 h2 => by
      rw [eU_get]
      by_cases hj : j = k
      · rw [if_pos hj]
        refine ⟨an.1, fun x => ?_⟩
        rw [an.2, a1.2, a2.2, hj]
        exact ⟨fun q => ⟨q.1.1, fun _ => q.2⟩, fun q => ⟨⟨q.1, fun z => by omega⟩, q.2 (by omega)⟩⟩
      · rw [if_neg hj]
        refine ⟨(hI j h1 h2).1, fun x => ?_⟩
        rw [(hI j h1 h2).2]
        exact ⟨fun q => ⟨q.1, fun z => q.2 (by omega)⟩, fun q => ⟨q.1, fun z => q.2 (by omega)⟩⟩)
    refine ⟨w1, ?_, k2⟩
    apply tX4_takePart25_86 w0 _ _ hf (by omega)
    · intro _; exact k1
    · intro z; omega
theorem y_X4_takePart25 (w : eW) {F : eP} (hF : SB w 25 F) : ∃ w1, Cal mX4_takePart [eR 25, eR 27] w (some (0, bI (∃ x y, F x y))) w1 ∧ Fr [25, 27] w w1 ∧ SB w1 25 (nxt F) ∧ SB w1 27 (pc F) := by
  obtain ⟨w2, fo, a1, a2, a3⟩ := y_X4_takeA25 w hF
  have hF2 := SB_fr a2 (by decide) hF
  rcases a3 with ⟨e, a3, a4⟩ | ⟨e, x0, y0, a3, a4⟩
  · subst e
    have ep : pc F = fun _ _ => False := by
      funext a b
      exact propext ⟨fun q => a3 a b (pc_in q), fun z => z.elim⟩
    obtain ⟨w1, c1, c2, c3⟩ := y_X4_takeC25 w2 0 (Or.inl rfl) hF2 a4
    rw [bI_0 (fun ⟨x, y, q⟩ => a3 x y q)]
    refine ⟨w1, Cal.of (by decide +kernel) (Nat.le_of_ble_eq_true rfl) (tX4_takePart25_0 w (a1 _ _ ?_)), (a2.mono (by decide)).tr (c2.mono (by decide)), ?_, ?_⟩
    · apply tX4_takePart25_59 w2 _ _ _ (w1 := w2) (gg := 0) (Or.inl rfl) (by omega) (fun _ z => absurd rfl z)
      · intro z; omega
      · intro _ _; exact c1
      · intro _ z; exact absurd rfl z
    · have : nxt F = fun a b => F a b ∧ ¬ False := by
        funext a b
        unfold nxt
        rw [ep]
      rw [this]
      exact c3
    · rw [ep]
      exact SB_fr c2 (by decide) a4
  · subst e
    have ep : pc F = cn F x0 y0 := by
      funext a b
      refine propext ⟨fun ⟨x, y, m, q⟩ => ?_, fun q => ⟨x0, y0, a3, q⟩⟩
      obtain ⟨rfl, rfl⟩ := isMn_one a3 m
      exact q
    have l0 := ctF_b (W := 14) (H := 10) (by decide) (by decide) F
    have l1 := ctF_lt (W := 14) (H := 10) (F := fun a b => a = x0 ∧ b = y0) (G := fun _ _ => False) (fun _ _ z => z.elim) (hF.2 x0 y0 a3.1) ⟨rfl, rfl⟩ (fun z => z)
    have l2 := (ctF_b (W := 14) (H := 10) (by decide) (by decide) (fun _ _ => False)).1
    obtain ⟨w4, b1, b2, b3⟩ := y_X4_takeB25 a3.1 139 w2 0 1 (fun a b => a = x0 ∧ b = y0) hF2 a4 (fun a b q => by rw [q.1, q.2]; exact a3.1) (fun a b q => by rw [q.1, q.2]; exact cn_rf) ⟨rfl, rfl⟩ (fun z => absurd z (by decide)) (Or.inr rfl) (by omega) (by omega) (fun _ => by omega) (by omega)
    obtain ⟨w1, c1, c2, c3⟩ := y_X4_takeC25 w4 1 (Or.inr rfl) (SB_fr b2 (by decide) hF2) b3
    rw [bI_1 ⟨x0, y0, a3.1⟩]
    refine ⟨w1, Cal.of (by decide +kernel) (Nat.le_of_ble_eq_true rfl) (tX4_takePart25_0 w (a1 _ _ (b1 _ _ c1))), ((a2.mono (by decide)).tr (b2.mono (by decide))).tr (c2.mono (by decide)), ?_, ?_⟩
    · unfold nxt
      rw [ep]
      exact c3
    · rw [ep]
      exact SB_fr c2 (by decide) b3
theorem y_X4_countL25 : ∀ (n : Nat) (F : eP) (w : eW) (c k : Int), SB w 25 F → isNp F n → 0 ≤ k → k + n ≤ 140 → ∃ w1, Go mX4_countParts 4 [(0, eR 25), (1, eR 27), (2, (0, c)), (3, (0, k))] [] w (some (0, c + n)) w1 ∧ Fr [25, 27] w w1 := by
  intro n
  induction n with
  | zero =>
    intro F w c k hF hn hk1 hk2
    obtain ⟨w1, c1, c2, c3, c4⟩ := y_X4_takePart25 w hF
    rw [bI_0 (fun ⟨x, y, q⟩ => hn.2 x y q)] at c1
    by_cases hk : k < 140
    · refine ⟨w1, ?_, c2⟩
      apply tX4_countParts25_4 w _ _ (Or.inl rfl) (by omega) (fun _ => c1)
      · intro _ _; exact ⟨by rw [show c + ((0 : Nat) : Int) = c by omega], rfl⟩
      · intro _ z; exact absurd rfl z
      · intro z; omega
    · refine ⟨w, ?_, Fr.rf⟩
      apply tX4_countParts25_4 w _ _ (Or.inl rfl) (by omega) (fun _ => c1)
      · intro z; omega
      · intro z; omega
      · intro _; exact ⟨by rw [show c + ((0 : Nat) : Int) = c by omega], rfl⟩
  | succ n ih =>
    intro F w c k hF hn hk1 hk2
    obtain ⟨w1, c1, c2, c3, c4⟩ := y_X4_takePart25 w hF
    rw [bI_1 (show ∃ x y, F x y from hn.1 0 (by omega))] at c1
    obtain ⟨w2, d1, d2⟩ := ih (nxt F) w1 (c + 1) (k + 1) c3 (isNp_nxt hn) (by omega) (by omega)
    rw [show c + 1 + (n : Int) = c + ((n + 1 : Nat) : Int) by omega] at d1
    refine ⟨w2, ?_, c2.tr d2⟩
    apply tX4_countParts25_4 w _ _ (Or.inr rfl) (by omega) (fun _ => c1)
    · intro _ z; exact absurd z (by decide)
    · intro _ _; exact d1
    · intro z; omega
theorem y_X4_countParts25 (w : eW) {F : eP} (hF : SB w 25 F) : ∃ w1 n, isNp F n ∧ n ≤ 140 ∧ Cal mX4_countParts [eR 25, eR 27] w (some (0, (n : Int))) w1 ∧ Fr [25, 27] w w1 := by
  obtain ⟨n, h1, h2⟩ := isNp_ex (W := 14) (H := 10) (by decide) (by decide) hF.2
  have l0 := ctF_b (W := 14) (H := 10) (by decide) (by decide) F
  obtain ⟨w1, c1, c2⟩ := y_X4_countL25 n F w 0 0 hF h1 (by omega) (by omega)
  rw [Int.zero_add] at c1
  exact ⟨w1, n, h1, by omega, Cal.of (by decide +kernel) (Nat.le_of_ble_eq_true rfl) (tX4_countParts25_0 w c1), c2⟩
theorem y_X4_takeA29 (w : eW) {F : eP} (hF : SB w 29 F) : ∃ w2 fo, (∀ (r : Option eV) (w9 : eW), Go mX4_takePart 59 [(0, eR 29), (1, eR 28), (2, (0, fo)), (3, (0, fo)), (4, (0, 0))] [] w2 r w9 → Go mX4_takePart 9 [(0, eR 29), (1, eR 28), (2, (0, 0)), (3, (0, 0))] [] (eFill w 28 10 0) r w9) ∧ Fr [28] w w2 ∧ ((fo = 0 ∧ (∀ x y, ¬ F x y) ∧ SB w2 28 (fun _ _ => False)) ∨ (fo = 1 ∧ ∃ x0 y0, isMn F x0 y0 ∧ SB w2 28 (fun a b => a = x0 ∧ b = y0))) := by
  have key := loop_up (P := fun y => ∀ w0, Fr [28] w w0 → (∀ j, 0 ≤ j → j < 10 → w0 28 j = 0) → (∀ x j, j < y → ¬ F x j) → ∃ w2 fo, (∀ (r : Option eV) (w9 : eW), Go mX4_takePart 59 [(0, eR 29), (1, eR 28), (2, (0, fo)), (3, (0, fo)), (4, (0, 0))] [] w2 r w9 → Go mX4_takePart 9 [(0, eR 29), (1, eR 28), (2, (0, 0)), (3, (0, y))] [] w0 r w9) ∧ Fr [28] w w2 ∧ ((fo = 0 ∧ (∀ x y, ¬ F x y) ∧ SB w2 28 (fun _ _ => False)) ∨ (fo = 1 ∧ ∃ x0 y0, isMn F x0 y0 ∧ SB w2 28 (fun a b => a = x0 ∧ b = y0)))) 0 10 ?_ ?_ 0 (by omega) (by omega) (eFill w 28 10 0) (fun k hk => eFill_ne (fun z => hk (by rw [z]; decide))) (fun j h1 h2 => by rw [eFill_at, if_pos ⟨h1, h2⟩]) (fun x j hj q => by have := hF.2 x j q; omega)
  · exact key
  · intro w0 f0 h0 hn
    refine ⟨w0, 0, fun r w9 h => ?_, f0, Or.inl ⟨rfl, fun x y q => hn x y (by have := hF.2 x y q; omega) q, fun y h1 h2 => ?_, fun a b z => z.elim⟩⟩
    · apply tX4_takePart29_9 w0 _ _ (Or.inl rfl) (by omega) (SB_b (SB_fr f0 (by decide) hF))
      all_goals (intros; first | with_reducible exact h | (exfalso; omega))
    · rw [h0 y h1 h2]
      exact ⟨by omega, fun x => ⟨fun q => absurd q (hb_no0 x), fun z => z.elim⟩⟩
  · intro y hy1 hy2 ih w0 f0 h0 hn
    have hF0 := SB_fr f0 (by decide) hF
    have fy := hF0.1 y hy1 hy2
    by_cases hz : w0 29 y = 0
    · have e0 : eAnd (w0 29 y) (-(w0 29 y)) = 0 := by rw [hz]; decide
      obtain ⟨w2, fo, k1, k2⟩ := ih (eU w0 28 y 0) (f0.put (by decide)) (fun j h1 h2 => by rw [eU_get]; split; rfl; exact h0 j h1 h2) (fun x j hj q => by
        by_cases hc : j = y
        · rw [hc] at q
          have := (fy.2 x).mpr q
          rw [hz] at this
          exact hb_no0 x this
        · exact hn x j (by omega) q)
      refine ⟨w2, fo, fun r w9 h => ?_, k2⟩
      have k3 := k1 r w9 h
      apply tX4_takePart29_9 w0 _ _ (Or.inl rfl) (by omega) (SB_b hF0)
      · intro _ _ _; rw [e0]; exact k3
      · intro _ _ z; exact absurd hz z
      · intro _ z; exact absurd rfl z
      · intro z; omega
    · obtain ⟨x0, l1, l2, l3, l4⟩ := hb_low fy.1 hz
      have f1 : Fr [28] w (eU w0 28 y (eAnd (w0 29 y) (-(w0 29 y)))) := f0.put (by decide)
      refine ⟨eU w0 28 y (eAnd (w0 29 y) (-(w0 29 y))), 1, fun r w9 h => ?_, f1, Or.inr ⟨rfl, x0, y, ⟨(fy.2 x0).mp l1, fun a b q hr => ?_⟩, fun j h1 h2 => ?_, fun a b q => ?_⟩⟩
      · apply tX4_takePart29_9 w0 _ _ (Or.inl rfl) (by omega) (SB_b hF0)
        · intro _ _ z; exact absurd z hz
        · intro _ _ _
          apply tX4_takePart29_9 _ _ _ (Or.inr rfl) (by omega) (SB_b (SB_fr f1 (by decide) hF))
          · intro _ z; exact absurd z (by decide)
          · intro _ z; exact absurd z (by decide)
          · intro _ _; exact h
          · intro _; exact h
        · intro _ z; exact absurd rfl z
        · intro z; omega
      · rcases hr with hr | hr
        · exact hn a b hr q
        · rw [hr.1] at q
          have := l2 a ((fy.2 a).mpr q)
          omega
      · rw [eU_get]
        by_cases hj : j = y
        · rw [if_pos hj]
          exact ⟨l3, fun x => by rw [l4, hj]; exact ⟨fun z => ⟨z, rfl⟩, fun z => z.1⟩⟩
        · rw [if_neg hj, h0 j h1 h2]
          exact ⟨by omega, fun x => ⟨fun z => absurd z (hb_no0 x), fun z => absurd z.2 hj⟩⟩
      · rw [q.1, q.2]
        have := l1.1
        have := l1.2.1
        omega
theorem y_X4_takeB29 {F : eP} {x0 y0 : Int} (hm : F x0 y0) : ∀ (n : Nat) (w3 : eW) (k gr : Int) (t : eP), SB w3 29 F → SB w3 28 t → (∀ a b, t a b → F a b) → (∀ a b, t a b → cn F x0 y0 a b) → t x0 y0 → (gr = 0 → cl F t) → (gr = 0 ∨ gr = 1) → ctF 14 10 F - ctF 14 10 t ≤ n → 0 ≤ k → (gr = 1 → k + n ≤ 139) → k ≤ 140 → ∃ w4, (∀ (r : Option eV) (w9 : eW), Go mX4_takePart 86 [(0, eR 29), (1, eR 28), (2, (0, 1)), (4, (0, 0))] [] w4 r w9 → Go mX4_takePart 59 [(0, eR 29), (1, eR 28), (2, (0, 1)), (3, (0, gr)), (4, (0, k))] [] w3 r w9) ∧ Fr [28] w3 w4 ∧ SB w4 28 (cn F x0 y0) := by
  have done : ∀ (w3 : eW) (k : Int) (t : eP), SB w3 28 t → (∀ a b, t a b → cn F x0 y0 a b) → t x0 y0 → cl F t → 0 ≤ k → k ≤ 140 → ∃ w4, (∀ (r : Option eV) (w9 : eW), Go mX4_takePart 86 [(0, eR 29), (1, eR 28), (2, (0, 1)), (4, (0, 0))] [] w4 r w9 → Go mX4_takePart 59 [(0, eR 29), (1, eR 28), (2, (0, 1)), (3, (0, 0)), (4, (0, k))] [] w3 r w9) ∧ Fr [28] w3 w4 ∧ SB w4 28 (cn F x0 y0) := by
    intro w3 k t h1 h2 h3 h4 hk1 hk2
    have e : t = cn F x0 y0 := by
      funext a b
      exact propext ⟨h2 a b, fun q => q t h3 h4⟩
    rw [e] at h1
    refine ⟨w3, fun r w9 h => ?_, Fr.rf, h1⟩
    apply tX4_takePart29_59 w3 _ _ _ (w1 := w3) (gg := 0) (Or.inl rfl) (by omega) (fun _ z => absurd rfl z)
    · intro z; omega
    · intro _ _; exact h
    · intro _ z; exact absurd rfl z
  intro n
  induction n with
  | zero =>
    intro w3 k gr t h1 h2 h3 h4 h5 h6 h7 h8 h9 h10 h11
    rcases h7 with h7 | h7
    · subst h7
      exact done w3 k t h2 h4 h5 (h6 rfl) h9 h11
    · obtain ⟨w1, gg, t1, c1, c2, c3, c4, c5, c6, c7, c8, c9⟩ := y_X4_growPart29 w3 h1 h2 h3
      rcases c3 with c3 | c3
      · obtain ⟨w4, d1, d2, d3⟩ := done w1 (k + 1) t1 c4 (fun a b q => h4 a b ((c8 c3).2 a b q)) (c5 _ _ h5) (fun a b c d q1 q2 q3 => c5 _ _ ((c8 c3).1 a b c d ((c8 c3).2 a b q1) q2 q3)) (by omega) (by omega)
        refine ⟨w4, fun r w9 h => ?_, c2.tr d2, d3⟩
        have := d1 r w9 h
        rw [← c3] at this
        apply tX4_takePart29_59 w3 _ _ _ (Or.inr h7) (by omega) (fun _ _ => c1)
        · intro z; omega
        · intro _ z; omega
        · intro _ _; exact this
      · obtain ⟨a, b, q1, q2⟩ := c9 c3
        have l1 := ctF_lt (W := 14) (H := 10) c5 (c4.2 a b q1) q1 q2
        have l2 : ctF 14 10 t1 ≤ ctF 14 10 F := sumI_le (fun i _ _ => sumI_le (fun j _ _ => bI_le (c6 j i)))
        exact absurd h8 (by omega)
  | succ n ih =>
    intro w3 k gr t h1 h2 h3 h4 h5 h6 h7 h8 h9 h10 h11
    rcases h7 with h7 | h7
    · subst h7
      exact done w3 k t h2 h4 h5 (h6 rfl) h9 h11
    · obtain ⟨w1, gg, t1, c1, c2, c3, c4, c5, c6, c7, c8, c9⟩ := y_X4_growPart29 w3 h1 h2 h3
      have hcl : cl F (cn F x0 y0) := fun a b c d q1 q2 q3 => cn_st q1 q2 q3
      have fin : ∃ w4, (∀ (r : Option eV) (w9 : eW), Go mX4_takePart 86 [(0, eR 29), (1, eR 28), (2, (0, 1)), (4, (0, 0))] [] w4 r w9 → Go mX4_takePart 59 [(0, eR 29), (1, eR 28), (2, (0, 1)), (3, (0, gg)), (4, (0, k + 1))] [] w1 r w9) ∧ Fr [28] w1 w4 ∧ SB w4 28 (cn F x0 y0) := by
        have hk := h10 h7
        rcases c3 with c3 | c3
        · subst c3
          exact done w1 (k + 1) t1 c4 (fun a b q => h4 a b ((c8 rfl).2 a b q)) (c5 _ _ h5) (fun a b c d q1 q2 q3 => c5 _ _ ((c8 rfl).1 a b c d ((c8 rfl).2 a b q1) q2 q3)) (by omega) (by omega)
        · obtain ⟨a, b, q1, q2⟩ := c9 c3
          have l1 := ctF_lt (W := 14) (H := 10) c5 (c4.2 a b q1) q1 q2
          exact ih w1 (k + 1) gg t1 (SB_fr c2 (by decide) h1) c4 c6 (c7 _ hcl h4) (c5 _ _ h5) (fun z => by omega) (Or.inr c3) (by omega) (by omega) (fun _ => by omega) (by omega)
      obtain ⟨w4, d1, d2, d3⟩ := fin
      refine ⟨w4, fun r w9 h => ?_, c2.tr d2, d3⟩
      have := d1 r w9 h
      apply tX4_takePart29_59 w3 _ _ _ (Or.inr h7) (by omega) (fun _ _ => c1)
      · intro z; have := h10 h7; omega
      · intro _ z; omega
      · intro _ _; exact this
theorem y_X4_takeC29 (w : eW) (fo : Int) (hf : fo = 0 ∨ fo = 1) {F t : eP} (hF : SB w 29 F) (ht : SB w 28 t) : ∃ w1, Go mX4_takePart 86 [(0, eR 29), (1, eR 28), (2, (0, fo)), (4, (0, 0))] [] w (some (0, fo)) w1 ∧ Fr [29] w w1 ∧ SB w1 29 (fun a b => F a b ∧ ¬ t a b) := by
  have key := loop_up (P := fun k => ∀ w0, Fr [29] w w0 → (∀ j, 0 ≤ j → j < 10 → (0 ≤ w0 29 j ∧ w0 29 j < 16384) ∧ ∀ x, hb14 (w0 29 j) x ↔ (F x j ∧ (j < k → ¬ t x j))) → ∃ w1, Go mX4_takePart 86 [(0, eR 29), (1, eR 28), (2, (0, fo)), (4, (0, k))] [] w0 (some (0, fo)) w1 ∧ Fr [29] w w1 ∧ SB w1 29 (fun a b => F a b ∧ ¬ t a b)) 0 10 ?_ ?_ 0 (by omega) (by omega) w Fr.rf (fun j h1 h2 => ⟨(hF.1 j h1 h2).1, fun x => by rw [(hF.1 j h1 h2).2]; exact ⟨fun q => ⟨q, fun z => by omega⟩, fun q => q.1⟩⟩)
  · exact key
  · intro w0 f0 hI
    refine ⟨w0, ?_, f0, fun j h1 h2 => ⟨(hI j h1 h2).1, fun x => by rw [(hI j h1 h2).2]; exact ⟨fun q => ⟨q.1, q.2 h2⟩, fun q => ⟨q.1, fun _ => q.2⟩⟩⟩, fun a b q => hF.2 a b q.1⟩
    apply tX4_takePart29_86 w0 _ _ hf (by omega)
    · intro z; omega
    · intro _; exact ⟨rfl, rfl⟩
  · intro k hk1 hk2 ih w0 f0 hI
    have ht0 := SB_fr f0 (by decide) ht
    have a1 := hI k hk1 hk2
    have a2 := ht0.1 k hk1 hk2
    have an := andnot a1.1 a2.1
    obtain ⟨w1, k1, k2⟩ := ih (eU w0 29 k (eAnd (w0 29 k) (eXor (w0 28 k) (-1)))) (f0.put (by decide)) (fun j h1 h2 => by
      rw [eU_get]
      by_cases hj : j = k
      · rw [if_pos hj]
        refine ⟨an.1, fun x => ?_⟩
        rw [an.2, a1.2, a2.2, hj]
        exact ⟨fun q => ⟨q.1.1, fun _ => q.2⟩, fun q => ⟨⟨q.1, fun z => by omega⟩, q.2 (by omega)⟩⟩
      · rw [if_neg hj]
        refine ⟨(hI j h1 h2).1, fun x => ?_⟩
        rw [(hI j h1 h2).2]
        exact ⟨fun q => ⟨q.1, fun z => q.2 (by omega)⟩, fun q => ⟨q.1, fun z => q.2 (by omega)⟩⟩)
    refine ⟨w1, ?_, k2⟩
    apply tX4_takePart29_86 w0 _ _ hf (by omega)
    · intro _; exact k1
    · intro z; omega
theorem y_X4_takePart29 (w : eW) {F : eP} (hF : SB w 29 F) : ∃ w1, Cal mX4_takePart [eR 29, eR 28] w (some (0, bI (∃ x y, F x y))) w1 ∧ Fr [29, 28] w w1 ∧ SB w1 29 (nxt F) ∧ SB w1 28 (pc F) := by
  obtain ⟨w2, fo, a1, a2, a3⟩ := y_X4_takeA29 w hF
  have hF2 := SB_fr a2 (by decide) hF
  rcases a3 with ⟨e, a3, a4⟩ | ⟨e, x0, y0, a3, a4⟩
  · subst e
    have ep : pc F = fun _ _ => False := by
      funext a b
      exact propext ⟨fun q => a3 a b (pc_in q), fun z => z.elim⟩
    obtain ⟨w1, c1, c2, c3⟩ := y_X4_takeC29 w2 0 (Or.inl rfl) hF2 a4
    rw [bI_0 (fun ⟨x, y, q⟩ => a3 x y q)]
    refine ⟨w1, Cal.of (by decide +kernel) (Nat.le_of_ble_eq_true rfl) (tX4_takePart29_0 w (a1 _ _ ?_)), (a2.mono (by decide)).tr (c2.mono (by decide)), ?_, ?_⟩
    · apply tX4_takePart29_59 w2 _ _ _ (w1 := w2) (gg := 0) (Or.inl rfl) (by omega) (fun _ z => absurd rfl z)
      · intro z; omega
      · intro _ _; exact c1
      · intro _ z; exact absurd rfl z
    · have : nxt F = fun a b => F a b ∧ ¬ False := by
        funext a b
        unfold nxt
        rw [ep]
      rw [this]
      exact c3
    · rw [ep]
      exact SB_fr c2 (by decide) a4
  · subst e
    have ep : pc F = cn F x0 y0 := by
      funext a b
      refine propext ⟨fun ⟨x, y, m, q⟩ => ?_, fun q => ⟨x0, y0, a3, q⟩⟩
      obtain ⟨rfl, rfl⟩ := isMn_one a3 m
      exact q
    have l0 := ctF_b (W := 14) (H := 10) (by decide) (by decide) F
    have l1 := ctF_lt (W := 14) (H := 10) (F := fun a b => a = x0 ∧ b = y0) (G := fun _ _ => False) (fun _ _ z => z.elim) (hF.2 x0 y0 a3.1) ⟨rfl, rfl⟩ (fun z => z)
    have l2 := (ctF_b (W := 14) (H := 10) (by decide) (by decide) (fun _ _ => False)).1
    obtain ⟨w4, b1, b2, b3⟩ := y_X4_takeB29 a3.1 139 w2 0 1 (fun a b => a = x0 ∧ b = y0) hF2 a4 (fun a b q => by rw [q.1, q.2]; exact a3.1) (fun a b q => by rw [q.1, q.2]; exact cn_rf) ⟨rfl, rfl⟩ (fun z => absurd z (by decide)) (Or.inr rfl) (by omega) (by omega) (fun _ => by omega) (by omega)
    obtain ⟨w1, c1, c2, c3⟩ := y_X4_takeC29 w4 1 (Or.inr rfl) (SB_fr b2 (by decide) hF2) b3
    rw [bI_1 ⟨x0, y0, a3.1⟩]
    refine ⟨w1, Cal.of (by decide +kernel) (Nat.le_of_ble_eq_true rfl) (tX4_takePart29_0 w (a1 _ _ (b1 _ _ c1))), ((a2.mono (by decide)).tr (b2.mono (by decide))).tr (c2.mono (by decide)), ?_, ?_⟩
    · unfold nxt
      rw [ep]
      exact c3
    · rw [ep]
      exact SB_fr c2 (by decide) b3
theorem y_X4_countL29 : ∀ (n : Nat) (F : eP) (w : eW) (c k : Int), SB w 29 F → isNp F n → 0 ≤ k → k + n ≤ 140 → ∃ w1, Go mX4_countParts 4 [(0, eR 29), (1, eR 28), (2, (0, c)), (3, (0, k))] [] w (some (0, c + n)) w1 ∧ Fr [29, 28] w w1 := by
  intro n
  induction n with
  | zero =>
    intro F w c k hF hn hk1 hk2
    obtain ⟨w1, c1, c2, c3, c4⟩ := y_X4_takePart29 w hF
    rw [bI_0 (fun ⟨x, y, q⟩ => hn.2 x y q)] at c1
    by_cases hk : k < 140
    · refine ⟨w1, ?_, c2⟩
      apply tX4_countParts29_4 w _ _ (Or.inl rfl) (by omega) (fun _ => c1)
      · intro _ _; exact ⟨by rw [show c + ((0 : Nat) : Int) = c by omega], rfl⟩
      · intro _ z; exact absurd rfl z
      · intro z; omega
    · refine ⟨w, ?_, Fr.rf⟩
      apply tX4_countParts29_4 w _ _ (Or.inl rfl) (by omega) (fun _ => c1)
      · intro z; omega
      · intro z; omega
      · intro _; exact ⟨by rw [show c + ((0 : Nat) : Int) = c by omega], rfl⟩
  | succ n ih =>
    intro F w c k hF hn hk1 hk2
    obtain ⟨w1, c1, c2, c3, c4⟩ := y_X4_takePart29 w hF
    rw [bI_1 (show ∃ x y, F x y from hn.1 0 (by omega))] at c1
    obtain ⟨w2, d1, d2⟩ := ih (nxt F) w1 (c + 1) (k + 1) c3 (isNp_nxt hn) (by omega) (by omega)
    rw [show c + 1 + (n : Int) = c + ((n + 1 : Nat) : Int) by omega] at d1
    refine ⟨w2, ?_, c2.tr d2⟩
    apply tX4_countParts29_4 w _ _ (Or.inr rfl) (by omega) (fun _ => c1)
    · intro _ z; exact absurd z (by decide)
    · intro _ _; exact d1
    · intro z; omega
theorem y_X4_countParts29 (w : eW) {F : eP} (hF : SB w 29 F) : ∃ w1 n, isNp F n ∧ n ≤ 140 ∧ Cal mX4_countParts [eR 29, eR 28] w (some (0, (n : Int))) w1 ∧ Fr [29, 28] w w1 := by
  obtain ⟨n, h1, h2⟩ := isNp_ex (W := 14) (H := 10) (by decide) (by decide) hF.2
  have l0 := ctF_b (W := 14) (H := 10) (by decide) (by decide) F
  obtain ⟨w1, c1, c2⟩ := y_X4_countL29 n F w 0 0 hF h1 (by omega) (by omega)
  rw [Int.zero_add] at c1
  exact ⟨w1, n, h1, by omega, Cal.of (by decide +kernel) (Nat.le_of_ble_eq_true rfl) (tX4_countParts29_0 w c1), c2⟩
