theorem FM.whole {q pl : Int} {u : eW} (h : FM q pl u) (a b : Int) (ha : eI a) (hb : eI b) : Cal mX8_readWhole [eR 33, (0, a), (0, b)] u (some (0, u 33 12)) u := by
  obtain ⟨h1, h2, h3, ⟨t1, t2, t3⟩, h5⟩ := h
  refine Cal.of (by decide +kernel) (Nat.le_of_ble_eq_true rfl) ?_
  by_cases c : u 33 9 = 3
  · apply tX8_readWholeF_0 u a b (by omega) c ha hb (t3.resolve_left (fun y => y c)) <;> (intros; first | with_reducible exact ⟨rfl, rfl⟩ | contradiction | (exfalso; omega))
  · apply tX8_readWholeFN_0 u a b (by omega) c t1 <;> (intros; first | with_reducible exact ⟨rfl, rfl⟩ | contradiction | (exfalso; omega))
theorem FM.comma {q pl : Int} {u : eW} (h : FM q pl u) : Cal mX8_comma [eR 33] u none u := by
  have hs := h.sign 44 (by decide)
  obtain ⟨h1, h2, h3, ⟨t1, t2, t3⟩, h5⟩ := h
  refine Cal.of (by decide +kernel) (Nat.le_of_ble_eq_true rfl) ?_
  apply tX8_commaF_0 u (by omega) hs <;> (intros; first | with_reducible exact ⟨rfl, rfl⟩ | contradiction | (exfalso; omega))
theorem j_whole {T : Int → Int} {n p : Int} (w wa : eW) (a b : Int) (ha : eI a) (hb : eI b) (hadv : Cal mX3_advance [eR 8] w none wa) (hT : TpC T n wa) (hk : TOK T n p (wa 8 5) (wa 8 3) (wa 8 4)) :
    (∃ q, Cal mX3_readWhole [eR 8, (0, a), (0, b)] w (some (0, 0)) (eU (eU wa 8 7 q) 8 8 (wa 8 5)) ∧ (1 ≤ q ∧ q ≤ 5) ∧ ∀ u, MR T n wa u → ∃ x, Cal mX8_readWhole [eR 33, (0, a), (0, b)] u (some (0, x)) (eU (eU u 33 7 q) 33 8 (u 33 10)) ∧ FM q (wa 8 5) (eU (eU u 33 7 q) 33 8 (u 33 10))) ∨
    (∃ v, (a ≤ v ∧ v ≤ b ∧ 0 ≤ v ∧ v ≤ 9999) ∧ Cal mX3_readWhole [eR 8, (0, a), (0, b)] w (some (0, 1)) wa ∧ Cal mX3_wholeValue [eR 8] wa (some (0, v)) wa ∧ ∀ u u1, MR T n wa u → Cal mX8_goOn [eR 33] u none u1 → Cal mX8_readWhole [eR 33, (0, a), (0, b)] u (some (0, v)) u1) := by
  have n4 := hT.1.2
  have hbb := hk.b n4
  by_cases c : wa 8 4 = 2
  · rw [c] at hk
    have hv := nmv_w hk
    have gw := y_wholeValue hT hk rfl rfl
    generalize eV : nmv T (wa 8 5) (wa 8 3 - wa 8 5).toNat = v at *
    have tok : ∀ u, MR T n wa u → u 33 9 = 3 ∧ u 33 12 = v := by
      intro u hu
      have m3 := hu.2.2.1.2.2
      rw [c] at m3
      rcases m3 with ⟨z, -⟩ | ⟨z, -⟩ | ⟨-, z1, z2⟩ | ⟨z, -⟩ | ⟨z, -⟩
      · exact absurd z (by decide)
      · exact absurd z (by decide)
      · exact ⟨z1, z2.trans eV⟩
      · omega
      · exact absurd z (by decide)
    by_cases d : a ≤ v ∧ v ≤ b
    · refine Or.inr ⟨v, by omega, Cal.of (by decide +kernel) (Nat.le_of_ble_eq_true rfl) ?_, gw, fun u u1 hu hg => Cal.of (by decide +kernel) (Nat.le_of_ble_eq_true rfl) ?_⟩
      · apply tX3_readWhole_0 w a b (w1 := wa) (v := v) ha hb (by omega) (by omega) hadv (fun _ => gw) <;> (intros; first | with_reducible exact ⟨rfl, rfl⟩ | contradiction | (exfalso; omega))
      · obtain ⟨t1, t2⟩ := tok u hu
        rw [← t2]
        apply tX8_readWhole_0 u a b (w1 := u1) hu.2.1 t1 ha hb (by omega) (fun _ => hg)
        · intro _; exact ⟨rfl, rfl⟩
        · intro z; rw [t2] at z; exact absurd d z
    · refine Or.inl ⟨2, Cal.of (by decide +kernel) (Nat.le_of_ble_eq_true rfl) ?_, by decide, fun u hu => ⟨u 33 12, Cal.of (by decide +kernel) (Nat.le_of_ble_eq_true rfl) ?_, FM.at hu (by rw [c]; exact hk) 2 (by decide)⟩⟩
      · apply tX3_readWhole_0 w a b (w1 := wa) (v := v) ha hb (by omega) (by omega) hadv (fun _ => gw) <;> (intros; first | with_reducible exact ⟨rfl, rfl⟩ | contradiction | (exfalso; omega))
      · obtain ⟨t1, t2⟩ := tok u hu
        apply tX8_readWhole_0 u a b (w1 := u) hu.2.1 t1 ha hb (by omega) (fun z => absurd z (by rw [t2]; exact d))
        · intro z; rw [t2] at z; exact absurd z d
        · intro _; exact ⟨rfl, rfl⟩
  · refine Or.inl ⟨1, Cal.of (by decide +kernel) (Nat.le_of_ble_eq_true rfl) ?_, by decide, fun u hu => ⟨u 33 12, Cal.of (by decide +kernel) (Nat.le_of_ble_eq_true rfl) ?_, FM.at hu hk 1 (by decide)⟩⟩
    · apply tX3_readWhole_0 w a b (w1 := wa) (v := 0) ha hb (by omega) (by decide) hadv (fun z => absurd z c) <;> (intros; first | with_reducible exact ⟨rfl, rfl⟩ | contradiction | (exfalso; omega))
    · have ht := (hu.tkb hk).1
      have m3 := hu.2.2.1.2.2
      have h9 : ¬ u 33 9 = 3 := by
        rcases m3 with ⟨-, z⟩ | ⟨-, z, -⟩ | ⟨z, -⟩ | ⟨-, z, -⟩ | ⟨-, z⟩
        · omega
        · omega
        · exact absurd z c
        · omega
        · omega
      apply tX8_readWholeN_0 u a b hu.2.1 h9 ht <;> (intros; first | with_reducible exact ⟨rfl, rfl⟩ | contradiction | (exfalso; omega))
theorem j_comma {T : Int → Int} {n p : Int} (w wa : eW) (hadv : Cal mX3_advance [eR 8] w none wa) (hT : TpC T n wa) (hk : TOK T n p (wa 8 5) (wa 8 3) (wa 8 4)) :
    (Cal mX3_readComma [eR 8] w (some (0, 0)) (eU (eU wa 8 7 1) 8 8 (wa 8 5)) ∧ ∀ u, MR T n wa u → Cal mX8_comma [eR 33] u none (eU (eU u 33 7 1) 33 8 (u 33 10)) ∧ FM 1 (wa 8 5) (eU (eU u 33 7 1) 33 8 (u 33 10))) ∨
    (Cal mX3_readComma [eR 8] w (some (0, 1)) wa ∧ ∀ u u1, MR T n wa u → Cal mX8_goOn [eR 33] u none u1 → Cal mX8_comma [eR 33] u none u1) := by
  have n4 := hT.1.2
  have hbb := hk.b n4
  by_cases c : wa 8 4 = 44
  · refine Or.inr ⟨Cal.of (by decide +kernel) (Nat.le_of_ble_eq_true rfl) ?_, fun u u1 hu hg => Cal.of (by decide +kernel) (Nat.le_of_ble_eq_true rfl) ?_⟩
    · apply tX3_readComma_0 w (w1 := wa) (by omega) hadv <;> (intros; first | with_reducible exact ⟨rfl, rfl⟩ | contradiction | (exfalso; omega))
    · have gs := y_isSign n4 hk hu.2.1 hu.2.2.1 44 (by decide)
      rw [if_pos c] at gs
      exact tX8_comma_0 u hu.2.1 gs hg ⟨rfl, rfl⟩
  · refine Or.inl ⟨Cal.of (by decide +kernel) (Nat.le_of_ble_eq_true rfl) ?_, fun u hu => ⟨Cal.of (by decide +kernel) (Nat.le_of_ble_eq_true rfl) ?_, FM.at hu hk 1 (by decide)⟩⟩
    · apply tX3_readComma_0 w (w1 := wa) (by omega) hadv <;> (intros; first | with_reducible exact ⟨rfl, rfl⟩ | contradiction | (exfalso; omega))
    · have gs := y_isSign n4 hk hu.2.1 hu.2.2.1 44 (by decide)
      rw [if_neg c] at gs
      exact tX8_commaN_0 u hu.2.1 gs ⟨rfl, rfl⟩
/-- a failed class's world -/
theorem FC.at (w : eW) (q : Int) : FC q (w 8 5) (eU (eU w 8 7 q) 8 8 (w 8 5)) := ⟨by rw [eU_get, if_neg (by decide), eU_get, if_pos rfl], by rw [eU_get, if_pos rfl]⟩
theorem FM.put36 {q pl k v : Int} {u : eW} (h : FM q pl u) : FM q pl (eU u 36 k v) := by
  unfold FM TKB MO7
  rw [eU_ne (by decide), eU_ne (by decide)]
  exact h
/-- the model's other speeds, behind a flaw -/
theorem m_speedsF {q pl : Int} : ∀ k : Int, 1 ≤ k → k ≤ 4 → ∀ u, FM q pl u → ∃ u1, Go mX8_readLine 32 [(0, eR 33), (1, (0, k))] [] u none u1 ∧ FM q pl u1 ∧ FrP u u1 := by
  refine loop_up (P := fun k => ∀ u, FM q pl u → ∃ u1, Go mX8_readLine 32 [(0, eR 33), (1, (0, k))] [] u none u1 ∧ FM q pl u1 ∧ FrP u u1) 1 4 ?_ ?_
  · intro u h; exact ⟨u, tX8_speed4_32 u ⟨rfl, rfl⟩, h, FrP.rf⟩
  · intro k k1 k2 ih u h
    obtain ⟨u1, a1, a2, a3⟩ := ih (eU u 36 k (u 33 12)) h.put36
    exact ⟨u1, tX8_speed1_32 u k (by omega) h.comma (h.whole 1 9 (by decide) (by decide)) a1, a2, (FrP.rf.put (Or.inr (Or.inl rfl))).tr a3⟩
theorem DRF.pace {w : eW} (h : DRF w) {k v : Int} (hv : 1 ≤ v ∧ v ≤ 9) : DRF (eU w 11 k v) := by
  obtain ⟨d1, d2, d3, d4, d5, d6⟩ := h
  refine ⟨?_, ?_, ?_, fun s s1 s2 => ?_, ?_, ?_⟩
  · rw [eU_ne (by decide)]; exact d1
  · rw [eU_ne (by decide)]; exact d2
  · rw [eU_ne (by decide), eU_ne (by decide)]; exact d3
  · rw [eU_get]; split
    · exact hv
    · exact d4 s s1 s2
  · rw [eU_ne (by decide)]; exact d5
  · rw [eU_ne (by decide), eU_ne (by decide)]; exact d6
/-- both store a speed: the class before, the model behind the next token -/
theorem MR.pace {T : Int → Int} {n : Int} {wb wd u1 u2 : eW} {k v : Int} (h : MR T n wb u1) (had : AD (eU wb 11 k v) wd) (hm : MD u1 u2) (ht : MTK T (wd 8 5) (wd 8 3) (wd 8 4) u2) : MR T n wd (eU u2 36 k v) := by
  obtain ⟨h1, h2, h3, h4⟩ := h
  have t2 := hm.tp h1
  refine ⟨⟨t2.1, by rw [eU_ne (by decide)]; exact t2.2.1, by rw [eU_ne (by decide)]; exact t2.2.2⟩, ?_, ?_, DR.ad ?_ had⟩
  · rw [eU_ne (by decide), hm.2 7 (by decide) (by decide) (by decide) (by decide) (by decide) (by decide)]; exact h2
  · unfold MTK; rw [eU_ne (by decide)]; exact ht
  · obtain ⟨r1, r2, r3, r4, r5, r6, r7, r8⟩ := h4.md hm
    refine ⟨?_, ?_, ?_, ?_, ?_, fun s s1 s2 => ?_, ?_, ?_⟩
    · rw [eU_ne (by decide), eU_ne (by decide)]; exact r1
    · rw [eU_ne (by decide), eU_ne (by decide)]; exact r2
    · rw [eU_ne (by decide), eU_ne (by decide)]; exact r3
    · rw [eU_ne (by decide), eU_ne (by decide)]; exact r4
    · rw [eU_ne (by decide), eU_ne (by decide)]; exact r5
    · rw [eU_get, eU_get]; split
      · rfl
      · exact r6 s s1 s2
    · rw [eU_ne (by decide), eU_ne (by decide), eU_ne (by decide)]; exact r7
    · unfold MO7; rw [eU_ne (by decide)]; exact r8
/-- the speeds, from the second on -/
theorem j_speedsL {T : Int → Int} {n : Int} : ∀ k : Int, 1 ≤ k → k ≤ 4 → ∀ w wa, Cal mX3_advance [eR 8] w none wa → AD w wa → TOK T n (w 8 3) (wa 8 5) (wa 8 3) (wa 8 4) → TpC T n w → DRF w →
    ∃ ok w1, Go mX3_readSpeeds 7 [(0, eR 8), (1, (0, k))] [] w (some (0, ok)) w1 ∧ Fr [8, 11] w w1 ∧ w 8 3 ≤ w1 8 3 ∧
      ((ok = 0 ∧ ∃ q pl, FC q pl w1 ∧ ∀ u, MR T n wa u → ∃ u1, Go mX8_readLine 32 [(0, eR 33), (1, (0, k))] [] u none u1 ∧ FM q pl u1 ∧ FrP u u1) ∨
       (ok = 1 ∧ RD T n w1 ∧ w1 8 2 = w 8 2 ∧ ∀ u, MR T n wa u → ∃ u1, Go mX8_readLine 32 [(0, eR 33), (1, (0, k))] [] u none u1 ∧ MR T n w1 u1 ∧ FrP u u1)) := by
  refine loop_up (P := fun k => ∀ w wa, Cal mX3_advance [eR 8] w none wa → AD w wa → TOK T n (w 8 3) (wa 8 5) (wa 8 3) (wa 8 4) → TpC T n w → DRF w →
    ∃ ok w1, Go mX3_readSpeeds 7 [(0, eR 8), (1, (0, k))] [] w (some (0, ok)) w1 ∧ Fr [8, 11] w w1 ∧ w 8 3 ≤ w1 8 3 ∧
      ((ok = 0 ∧ ∃ q pl, FC q pl w1 ∧ ∀ u, MR T n wa u → ∃ u1, Go mX8_readLine 32 [(0, eR 33), (1, (0, k))] [] u none u1 ∧ FM q pl u1 ∧ FrP u u1) ∨
       (ok = 1 ∧ RD T n w1 ∧ w1 8 2 = w 8 2 ∧ ∀ u, MR T n wa u → ∃ u1, Go mX8_readLine 32 [(0, eR 33), (1, (0, k))] [] u none u1 ∧ MR T n w1 u1 ∧ FrP u u1))) 1 4 ?_ ?_
  · intro w wa a1 a2 a3 hT hD
    have ha := a3.b hT.1.2
    refine ⟨1, wa, ?_, a2.1.mono (by decide), by omega, Or.inr ⟨rfl, RD.ad hT hD a2 a3, a2.2 2 (by decide) (by decide) (by decide), fun u hu => ⟨u, tX8_speed4_32 u ⟨rfl, rfl⟩, hu, FrP.rf⟩⟩⟩
    apply tX3_readSpeeds_7 w 4 (w1 := w) (w2 := w) (w4 := wa) (ok1 := 0) (ok2 := 0) (v := 0) (by decide) (by decide) (by decide) (fun z => absurd z (by decide)) (fun z => absurd z (by decide)) (fun z => absurd z (by decide)) (fun _ => a1) <;> (intros; first | with_reducible exact ⟨rfl, rfl⟩ | contradiction | (exfalso; omega))
  · intro k k1 k2 ih w wa a1 a2 a3 hT hD
    have n4 := hT.1.2
    have ha := a3.b n4
    have Ta := a2.tp hT
    have e11 : wa 11 = w 11 := a2.1 11 (by decide)
    rcases j_comma w wa a1 Ta a3 with ⟨b1, b2⟩ | ⟨b1, b2⟩
    · refine ⟨0, _, ?_, ((a2.1.mono (S' := [8, 11]) (by decide)).put (i := 7) (v := 1) (by decide)).put (i := 8) (v := wa 8 5) (by decide), ?_, Or.inl ⟨rfl, 1, wa 8 5, FC.at wa 1, fun u hu => ?_⟩⟩
      · apply tX3_readSpeeds_7 w k (w1 := eU (eU wa 8 7 1) 8 8 (wa 8 5)) (w2 := w) (w4 := w) (ok1 := 0) (ok2 := 0) (v := 0) (by omega) (by decide) (by decide) (fun _ => b1) (fun _ z => absurd rfl z) (fun _ z => absurd rfl z) (fun z => absurd k2 z) <;> (intros; first | with_reducible exact ⟨rfl, rfl⟩ | contradiction | (exfalso; omega))
      · rw [eU_get, if_neg (by decide), eU_get, if_neg (by decide)]; omega
      · obtain ⟨g1, g2⟩ := b2 u hu
        obtain ⟨u1, g3, g4, g5⟩ := m_speedsF (k + 1) (by omega) (by omega) (eU (eU (eU u 33 7 1) 33 8 (u 33 10)) 36 k (eU (eU u 33 7 1) 33 8 (u 33 10) 33 12)) g2.put36
        exact ⟨u1, tX8_speed1_32 u k (by omega) g1 (g2.whole 1 9 (by decide) (by decide)) g3, g4, ((FrP.at _ _).put (Or.inr (Or.inl rfl))).tr g5⟩
    · obtain ⟨wb, c1, c2, c3⟩ := y_advance wa Ta (by omega)
      have hb := c3.b n4
      have Tb := c2.tp Ta
      rcases j_whole wa wb 1 9 (by decide) (by decide) c1 Tb c3 with ⟨q, d1, d2, d3⟩ | ⟨v, d1, d2, d3, d4⟩
      · refine ⟨0, _, ?_, (((a2.1.tr c2.1).mono (S' := [8, 11]) (by decide)).put (i := 7) (v := q) (by decide)).put (i := 8) (v := wb 8 5) (by decide), ?_, Or.inl ⟨rfl, q, wb 8 5, FC.at wb q, fun u hu => ?_⟩⟩
        · apply tX3_readSpeeds_7 w k (w1 := wa) (w2 := eU (eU wb 8 7 q) 8 8 (wb 8 5)) (w4 := w) (ok1 := 1) (ok2 := 0) (v := 0) (by omega) (by decide) (by decide) (fun _ => b1) (fun _ _ => d1) (fun _ _ z => absurd rfl z) (fun z => absurd k2 z) <;> (intros; first | with_reducible exact ⟨rfl, rfl⟩ | contradiction | (exfalso; omega))
        · rw [eU_get, if_neg (by decide), eU_get, if_neg (by decide)]; omega
        · obtain ⟨u1, g1, g2, g3⟩ := y_goOn u hu.1 hu.2.1 hu.2.2.1.2.1 c3
          have hu1 : MR T n wb u1 := ⟨g2.tp hu.1, (g2.2 7 (by decide) (by decide) (by decide) (by decide) (by decide) (by decide)).trans hu.2.1, g3, (hu.2.2.2.ad c2).md g2⟩
          obtain ⟨x, g4, g5⟩ := d3 u1 hu1
          obtain ⟨u2, g6, g7, g8⟩ := m_speedsF (k + 1) (by omega) (by omega) (eU (eU (eU u1 33 7 q) 33 8 (u1 33 10)) 36 k x) g5.put36
          exact ⟨u2, tX8_speed1_32 u k (by omega) (b2 u u1 hu g1) g4 g6, g7, (g2.fp.tr ((FrP.at _ _).put (Or.inr (Or.inl rfl)))).tr g8⟩
      · have Tc : TpC T n (eU wb 11 k v) := ⟨Tb.1, by rw [eU_ne (by decide)]; exact Tb.2.1, by rw [eU_ne (by decide)]; exact Tb.2.2⟩
        have e83 : eU wb 11 k v 8 3 = wb 8 3 := by rw [eU_ne (by decide)]
        obtain ⟨wd, f1, f2, f3⟩ := y_advance (eU wb 11 k v) Tc (by rw [e83]; omega)
        obtain ⟨ok, we, i1, i2, i3, i4⟩ := ih (eU wb 11 k v) wd f1 f2 f3 Tc (((hD.ad a2).ad c2).pace (by omega))
        rw [e83] at f3 i3
        refine ⟨ok, we, ?_, (((a2.1.tr c2.1).mono (by decide)).put (by decide)).tr i2, by omega, ?_⟩
        · apply tX3_readSpeeds_7 w k (w1 := wa) (w2 := wb) (w4 := w) (ok1 := 1) (ok2 := 1) (v := v) (by omega) (by decide) (by decide) (fun _ => b1) (fun _ _ => d2) (fun _ _ _ => d3) (fun z => absurd k2 z)
          · intro _ z; exfalso; omega
          · intro _ _ z; exfalso; omega
          · intro _ _ _ z; exfalso; omega
          · intro _ _ _ _; exact i1
          · intro z; exact absurd k2 z
        · have step : ∀ u, MR T n wa u → ∃ u3, MR T n wd u3 ∧ FrP u u3 ∧ ∀ w9, Go mX8_readLine 32 [(0, eR 33), (1, (0, k + 1))] [] u3 none w9 → Go mX8_readLine 32 [(0, eR 33), (1, (0, k))] [] u none w9 := by
            intro u hu
            obtain ⟨u1, g1, g2, g3⟩ := y_goOn u hu.1 hu.2.1 hu.2.2.1.2.1 c3
            have hu1 : MR T n wb u1 := ⟨g2.tp hu.1, (g2.2 7 (by decide) (by decide) (by decide) (by decide) (by decide) (by decide)).trans hu.2.1, g3, (hu.2.2.2.ad c2).md g2⟩
            obtain ⟨u2, g4, g5, g6⟩ := y_goOn u1 hu1.1 hu1.2.1 hu1.2.2.1.2.1 f3
            exact ⟨eU u2 36 k v, hu1.pace f2 g5 g6, (g2.fp.tr g5.fp).put (Or.inr (Or.inl rfl)), fun w9 g => tX8_speed1_32 u k (by omega) (b2 u u1 hu g1) (d4 u1 u2 hu1 g4) g⟩
          rcases i4 with ⟨z, q, pl, y1, y2⟩ | ⟨z, y1, y2, y3⟩
          · refine Or.inl ⟨z, q, pl, y1, fun u hu => ?_⟩
            obtain ⟨u3, s1, s2, s3⟩ := step u hu
            obtain ⟨u4, t1, t2, t3⟩ := y2 u3 s1
            exact ⟨u4, s3 _ t1, t2, s2.tr t3⟩
          · refine Or.inr ⟨z, y1, ?_, fun u hu => ?_⟩
            · rw [y2, eU_ne (by decide), c2.2 2 (by decide) (by decide) (by decide), a2.2 2 (by decide) (by decide) (by decide)]
            · obtain ⟨u3, s1, s2, s3⟩ := step u hu
              obtain ⟨u4, t1, t2, t3⟩ := y3 u3 s1
              exact ⟨u4, s3 _ t1, t2, s2.tr t3⟩

