theorem MR.go {T : Int → Int} {n : Int} {w w1 u : eW} (hu : MR T n w u) (a : AD w w1) (ht : TOK T n (w 8 3) (w1 8 5) (w1 8 3) (w1 8 4)) : ∃ u1, Cal mX8_goOn [eR 33] u none u1 ∧ MD u u1 ∧ MR T n w1 u1 := by
  obtain ⟨u1, g1, g2, g3⟩ := y_goOn u hu.1 hu.2.1 hu.2.2.1.2.1 ht
  exact ⟨u1, g1, g2, g2.tp hu.1, (g2.2 7 (by decide) (by decide) (by decide) (by decide) (by decide) (by decide)).trans hu.2.1, g3, (hu.2.2.2.ad a).md g2⟩
theorem j_speeds1 {T : Int → Int} {n : Int} (w : eW) (hT : TpC T n w) (hp : 0 ≤ w 8 3 ∧ w 8 3 ≤ n) (hD : DRF w) :
    ∃ ok w1, Go mX3_readSpeeds 7 [(0, eR 8), (1, (0, 0))] [] w (some (0, ok)) w1 ∧ Fr [8, 11] w w1 ∧ w 8 3 ≤ w1 8 3 ∧
      ((ok = 0 ∧ ∃ q pl, FC q pl w1 ∧ ∀ u, MR T n w u → ∃ u1 u2, Cal mX8_goOn [eR 33] u none u1 ∧ Go mX8_readLine 32 [(0, eR 33), (1, (0, 0))] [] u1 none u2 ∧ FM q pl u2 ∧ FrP u u2) ∨
       (ok = 1 ∧ RD T n w1 ∧ ∀ u, MR T n w u → ∃ u1 u2, Cal mX8_goOn [eR 33] u none u1 ∧ Go mX8_readLine 32 [(0, eR 33), (1, (0, 0))] [] u1 none u2 ∧ MR T n w1 u2 ∧ FrP u u2)) := by
  have n4 := hT.1.2
  obtain ⟨wa, a1, a2, a3⟩ := y_advance w hT hp
  have ha := a3.b n4
  have Ta := a2.tp hT
  rcases j_whole w wa 1 9 (by decide) (by decide) a1 Ta a3 with ⟨q, d1, d2, d3⟩ | ⟨v, d1, d2, d3, d4⟩
  · refine ⟨0, _, ?_, ((a2.1.mono (S' := [8, 11]) (by decide)).put (i := 7) (v := q) (by decide)).put (i := 8) (v := wa 8 5) (by decide), ?_, Or.inl ⟨rfl, q, wa 8 5, FC.at wa q, fun u hu => ?_⟩⟩
    · apply tX3_readSpeeds0_7 w (w2 := eU (eU wa 8 7 q) 8 8 (wa 8 5)) (ok2 := 0) (v := 0) (by decide) d1 (fun z => absurd rfl z) <;> (intros; first | with_reducible exact ⟨rfl, rfl⟩ | contradiction | (exfalso; omega))
    · rw [eU_get, if_neg (by decide), eU_get, if_neg (by decide)]; omega
    · obtain ⟨u1, g1, g2, g3⟩ := hu.go a2 a3
      obtain ⟨x, g4, g5⟩ := d3 u1 g3
      obtain ⟨u2, g6, g7, g8⟩ := m_speedsF 1 (by decide) (by decide) (eU (eU (eU u1 33 7 q) 33 8 (u1 33 10)) 36 0 x) g5.put36
      exact ⟨u1, u2, g1, tX8_speed0_32 u1 g4 g6, g7, (g2.fp.tr ((FrP.at _ _).put (Or.inr (Or.inl rfl)))).tr g8⟩
  · have Tc : TpC T n (eU wa 11 0 v) := ⟨Ta.1, by rw [eU_ne (by decide)]; exact Ta.2.1, by rw [eU_ne (by decide)]; exact Ta.2.2⟩
    have e83 : eU wa 11 0 v 8 3 = wa 8 3 := by rw [eU_ne (by decide)]
    obtain ⟨wd, f1, f2, f3⟩ := y_advance (eU wa 11 0 v) Tc (by rw [e83]; omega)
    obtain ⟨ok, we, i1, i2, i3, i4⟩ := j_speedsL 1 (by decide) (by decide) (eU wa 11 0 v) wd f1 f2 f3 Tc ((hD.ad a2).pace (by omega))
    rw [e83] at f3 i3
    refine ⟨ok, we, ?_, ((a2.1.mono (by decide)).put (by decide)).tr i2, by omega, ?_⟩
    · apply tX3_readSpeeds0_7 w (w2 := wa) (ok2 := 1) (v := v) (by decide) d2 (fun _ => d3)
      · intro z; exfalso; omega
      · intro _; exact i1
    · have step : ∀ u, MR T n w u → ∃ u1 u3, Cal mX8_goOn [eR 33] u none u1 ∧ MR T n wd u3 ∧ FrP u u3 ∧ ∀ w9, Go mX8_readLine 32 [(0, eR 33), (1, (0, 1))] [] u3 none w9 → Go mX8_readLine 32 [(0, eR 33), (1, (0, 0))] [] u1 none w9 := by
        intro u hu
        obtain ⟨u1, g1, g2, hu1⟩ := hu.go a2 a3
        obtain ⟨u2, g4, g5, g6⟩ := y_goOn u1 hu1.1 hu1.2.1 hu1.2.2.1.2.1 f3
        exact ⟨u1, eU u2 36 0 v, g1, hu1.pace f2 g5 g6, (g2.fp.tr g5.fp).put (Or.inr (Or.inl rfl)), fun w9 g => tX8_speed0_32 u1 (d4 u1 u2 hu1 g4) g⟩
      rcases i4 with ⟨z, q, pl, y1, y2⟩ | ⟨z, y1, y2, y3⟩
      · refine Or.inl ⟨z, q, pl, y1, fun u hu => ?_⟩
        obtain ⟨u1, u3, s0, s1, s2, s3⟩ := step u hu
        obtain ⟨u4, t1, t2, t3⟩ := y2 u3 s1
        exact ⟨u1, u4, s0, s3 _ t1, t2, s2.tr t3⟩
      · refine Or.inr ⟨z, y1, fun u hu => ?_⟩
        obtain ⟨u1, u3, s0, s1, s2, s3⟩ := step u hu
        obtain ⟨u4, t1, t2, t3⟩ := y3 u3 s1
        exact ⟨u1, u4, s0, s3 _ t1, t2, s2.tr t3⟩
theorem j_speeds {T : Int → Int} {n p : Int} (w : eW) (hT : TpC T n w) (hk : TOK T n p (w 8 5) (w 8 3) (w 8 4)) (hD : DRF w) (h6 : w 8 6 = 0) :
    ∃ ok w1, Cal mX3_readSpeeds [eR 8] w (some (0, ok)) w1 ∧ Fr [8, 11] w w1 ∧ w 8 3 ≤ w1 8 3 ∧
      ((ok = 0 ∧ ∃ q pl, FC q pl w1 ∧ ∀ u, MR T n w u → Cal mX8_isWord [eR 33, eR 114] u (some (0, 1)) u → ∃ u1, Cal mX8_readLine [eR 33] u none u1 ∧ FM q pl u1 ∧ FrP u u1) ∨
       (ok = 1 ∧ RD T n w1 ∧ ∀ u, MR T n w u → Cal mX8_isWord [eR 33, eR 114] u (some (0, 1)) u → ∃ u1, Cal mX8_readLine [eR 33] u none u1 ∧ MR T n w1 u1 ∧ FrP u u1)) := by
  have n4 := hT.1.2
  have hb0 := hk.b n4
  have e8 : ∀ i, i ≠ 6 → eU w 8 6 1 8 i = w 8 i := fun i hi => by rw [eU_get, if_neg hi]
  have e86 : eU w 8 6 1 8 6 = 1 := by rw [eU_get, if_pos rfl]
  have f0 : Fr [8] w (eU w 8 6 1) := Fr.put Fr.rf (by decide)
  have T0 : TpC T n (eU w 8 6 1) := ⟨hT.1, by rw [e8 2 (by decide)]; exact hT.2.1, by rw [f0 1 (by decide)]; exact hT.2.2⟩
  have D0 : DRF (eU w 8 6 1) := by
    unfold DRF
    rw [f0 9 (by decide), f0 10 (by decide), f0 11 (by decide), f0 12 (by decide), e86, e8 7 (by decide)]
    exact ⟨hD.1, ⟨by decide, by decide, hD.2.1.2.2⟩, hD.2.2⟩
  have M0 : ∀ u, MR T n w u → MR T n (eU w 8 6 1) (eU u 33 20 1) := by
    rintro u ⟨h1, h2, ⟨m1, m2, m3⟩, r1, r2, r3, r4, r5, r6, r7, r8⟩
    have g : ∀ i, i ≠ 20 → eU u 33 20 1 33 i = u 33 i := fun i hi => by rw [eU_get, if_neg hi]
    refine ⟨⟨h1.1, by rw [g 5 (by decide)]; exact h1.2.1, by rw [eU_ne (by decide)]; exact h1.2.2⟩, by rw [g 7 (by decide)]; exact h2, ⟨?_, ?_, ?_⟩, ?_, ?_, ?_, ?_, ?_, ?_, ?_, ?_⟩
    · rw [g 10 (by decide), e8 5 (by decide)]; exact m1
    · rw [g 6 (by decide), e8 3 (by decide)]; exact m2
    · rw [g 9 (by decide), g 11 (by decide), g 12 (by decide), g 13 (by decide), e8 3 (by decide), e8 4 (by decide), e8 5 (by decide)]; exact m3
    · rw [g 17 (by decide), f0 9 (by decide)]; exact r1
    · rw [g 18 (by decide), f0 9 (by decide)]; exact r2
    · rw [g 19 (by decide), f0 9 (by decide)]; exact r3
    · rw [eU_get, if_pos rfl, e86]
    · rw [eU_ne (by decide), f0 10 (by decide)]; exact r5
    · rw [eU_ne (by decide), f0 11 (by decide)]; exact r6
    · rw [f0 9 (by decide), f0 12 (by decide), eU_ne (show 37 ≠ 33 by decide)]; exact r7
    · unfold MO7; rw [eU_ne (by decide)]; exact r8
  have P0 : ∀ u, FrP u (eU u 33 20 1) := fun u => FrP.rf.put (Or.inr (Or.inr (Or.inr ⟨rfl, by decide, by decide⟩)))
  have e83 : eU w 8 6 1 8 3 = w 8 3 := e8 3 (by decide)
  have s0 : ∀ u, MR T n w u → u 33 20 = 0 := fun u hu => hu.2.2.2.2.2.2.1.trans h6
  obtain ⟨ok, w1, a1, a2, a3, a4⟩ := j_speeds1 (eU w 8 6 1) T0 (by rw [e83]; omega) D0
  refine ⟨ok, w1, Cal.of (by decide +kernel) (Nat.le_of_ble_eq_true rfl) (tX3_readSpeeds_0 w a1), (f0.mono (by decide)).tr a2, by omega, ?_⟩
  rcases a4 with ⟨z, q, pl, y1, y2⟩ | ⟨z, y1, y2⟩
  · refine Or.inl ⟨z, q, pl, y1, fun u hu hw => ?_⟩
    obtain ⟨u1, u2, g1, g2, g3, g4⟩ := y2 _ (M0 u hu)
    exact ⟨u2, Cal.of (by decide +kernel) (Nat.le_of_ble_eq_true rfl) (tX8_lineS_0 u hu.2.1 (s0 u hu) hw g1 g2), g3, (P0 u).tr g4⟩
  · refine Or.inr ⟨z, y1, fun u hu hw => ?_⟩
    obtain ⟨u1, u2, g1, g2, g3, g4⟩ := y2 _ (M0 u hu)
    exact ⟨u2, Cal.of (by decide +kernel) (Nat.le_of_ble_eq_true rfl) (tX8_lineS_0 u hu.2.1 (s0 u hu) hw g1 g2), g3, (P0 u).tr g4⟩
/-- a mark more -/
theorem j_mark {T : Int → Int} {n p : Int} (w : eW) (hT : TpC T n w) (hk : TOK T n p (w 8 5) (w 8 3) (w 8 4)) (hD : DRF w) (h2 : w 9 2 < 8) (h1 : 1 ≤ w 9 1) :
    ∃ ok w1, Cal mX3_readMark [eR 8] w (some (0, ok)) w1 ∧ Fr [8, 9, 12] w w1 ∧ w 8 3 ≤ w1 8 3 ∧ (ok = 0 ∨ (w1 9 0 = w 9 0 ∧ w1 9 1 = w 9 1)) ∧
      ((ok = 0 ∧ ∃ q pl, FC q pl w1 ∧ ∀ u, MR T n w u → Cal mX8_isWord [eR 33, eR 114] u (some (0, 0)) u → Cal mX8_isWord [eR 33, eR 113] u (some (0, 0)) u → Cal mX8_isWord [eR 33, eR 115] u (some (0, 1)) u → ∃ u1, Cal mX8_readLine [eR 33] u none u1 ∧ FM q pl u1 ∧ FrP u u1) ∨
       (ok = 1 ∧ RD T n w1 ∧ ∀ u, MR T n w u → Cal mX8_isWord [eR 33, eR 114] u (some (0, 0)) u → Cal mX8_isWord [eR 33, eR 113] u (some (0, 0)) u → Cal mX8_isWord [eR 33, eR 115] u (some (0, 1)) u → ∃ u1, Cal mX8_readLine [eR 33] u none u1 ∧ MR T n w1 u1 ∧ FrP u u1)) := by
  have n4 := hT.1.2
  have hb0 := hk.b n4
  obtain ⟨⟨d1, d2, d3, d4, d5, d6⟩, d7, d8, d9, d10, d11⟩ := id hD
  obtain ⟨wa, a1, a2, a3⟩ := y_advance w hT (by omega)
  have ha := a3.b n4
  have Ta := a2.tp hT
  have e9a : wa 9 = w 9 := a2.1 9 (by decide)
  have hw17 : ∀ {wx u}, MR T n wx u → wx 9 = w 9 → u 33 17 = w 9 0 ∧ u 33 18 = w 9 1 ∧ u 33 19 = w 9 2 := by
    intro wx u hu he
    obtain ⟨r1, r2, r3, -⟩ := hu.2.2.2
    rw [he] at r1 r2 r3
    exact ⟨r1.resolve_left (by omega), r2, r3⟩
  have ei : eI 0 := by decide
  rcases j_whole w wa 0 (4 * w 9 0) ei (by omega) a1 Ta a3 with ⟨q, b1, b2, b3⟩ | ⟨x, b1, b2, b3, b4⟩
  · refine ⟨0, _, Cal.of (by decide +kernel) (Nat.le_of_ble_eq_true rfl) ?_, ((a2.1.mono (S' := [8, 9, 12]) (by decide)).put (i := 7) (v := q) (by decide)).put (i := 8) (v := wa 8 5) (by decide), ?_, Or.inl rfl, Or.inl ⟨rfl, q, wa 8 5, FC.at wa q, fun u hu w1 w2 w3 => ?_⟩⟩
    · apply tX3_readMark_0 w (w1 := eU (eU wa 8 7 q) 8 8 (wa 8 5)) (w2 := w) (w3 := w) (w4 := w) (o1 := 0) (o2 := 0) (o3 := 0) (x := 0) (y := 0) (by omega) (by omega) (by decide) (by decide) (by decide) (by omega) b1 (fun z => absurd rfl z) (fun z => absurd rfl z) (fun z => absurd rfl z) (fun z => absurd rfl z) (fun z => absurd rfl z) <;> (intros; first | with_reducible exact ⟨rfl, rfl⟩ | contradiction | (exfalso; omega))
    · rw [eU_get, if_neg (by decide), eU_get, if_neg (by decide)]; omega
    · obtain ⟨u1, g1, g2, g3⟩ := hu.go a2 a3
      obtain ⟨v, g4, g5⟩ := b3 u1 g3
      obtain ⟨k1, k2, k3⟩ := hw17 hu rfl
      obtain ⟨l1, l2, l3⟩ := hw17 g3 e9a
      have fw : ∀ i, i ≠ 7 → i ≠ 8 → eU (eU u1 33 7 q) 33 8 (u1 33 10) 33 i = u1 33 i := fun i q1 q2 => by rw [eU_get, if_neg q2, eU_get, if_neg q1]
      refine ⟨_, Cal.of (by decide +kernel) (Nat.le_of_ble_eq_true rfl) ?_, g5, g2.fp.tr (FrP.at _ _)⟩
      apply tX8_lineM_0 u (w1 := u1) (w2 := eU (eU u1 33 7 q) 33 8 (u1 33 10)) (w3 := eU (eU u1 33 7 q) 33 8 (u1 33 10)) (w4 := eU (eU u1 33 7 q) 33 8 (u1 33 10)) hu.2.1 (by omega) (by rw [fw 19 (by decide) (by decide)]; omega) (by rw [g5.1]; omega) w1 w2 w3 g1 (by rw [l1]; exact g4) g5.comma (g5.whole 0 _ ei (by rw [fw 18 (by decide) (by decide)]; omega))
      · intro _; exact ⟨rfl, rfl⟩
      · intro z; exfalso; rw [g5.1] at z; omega
  · obtain ⟨wb, c1, c2, c3⟩ := y_advance wa Ta (by omega)
    have hb := c3.b n4
    have Tb := c2.tp Ta
    have e9b : wb 9 = w 9 := (c2.1 9 (by decide)).trans e9a
    rcases j_comma wa wb c1 Tb c3 with ⟨f1, f2⟩ | ⟨f1, f2⟩
    · refine ⟨0, _, Cal.of (by decide +kernel) (Nat.le_of_ble_eq_true rfl) ?_, (((a2.1.tr c2.1).mono (S' := [8, 9, 12]) (by decide)).put (i := 7) (v := 1) (by decide)).put (i := 8) (v := wb 8 5) (by decide), ?_, Or.inl rfl, Or.inl ⟨rfl, 1, wb 8 5, FC.at wb 1, fun u hu w1 w2 w3 => ?_⟩⟩
      · apply tX3_readMark_0 w (w1 := wa) (w2 := eU (eU wb 8 7 1) 8 8 (wb 8 5)) (w3 := w) (w4 := w) (o1 := 1) (o2 := 0) (o3 := 0) (x := x) (y := 0) (by omega) (by rw [eU_ne (by decide), eU_ne (by decide), e9b]; omega) (by decide) (by decide) (by decide) (by omega) b2 (fun _ => b3) (fun _ => f1) (fun _ z => absurd rfl z) (fun _ z => absurd rfl z) (fun _ z => absurd rfl z) <;> (intros; first | with_reducible exact ⟨rfl, rfl⟩ | contradiction | (exfalso; omega))
      · rw [eU_get, if_neg (by decide), eU_get, if_neg (by decide)]; omega
      · obtain ⟨u1, g1, g2, g3⟩ := hu.go a2 a3
        obtain ⟨u2, g4, g5, g6⟩ := g3.go c2 c3
        obtain ⟨g7, g8⟩ := f2 u2 g6
        obtain ⟨k1, k2, k3⟩ := hw17 hu rfl
        obtain ⟨l1, l2, l3⟩ := hw17 g3 e9a
        obtain ⟨m1, m2, m3⟩ := hw17 g6 e9b
        have fw : ∀ i, i ≠ 7 → i ≠ 8 → eU (eU u2 33 7 1) 33 8 (u2 33 10) 33 i = u2 33 i := fun i q1 q2 => by rw [eU_get, if_neg q2, eU_get, if_neg q1]
        refine ⟨_, Cal.of (by decide +kernel) (Nat.le_of_ble_eq_true rfl) ?_, g8, (g2.fp.tr g5.fp).tr (FrP.at _ _)⟩
        apply tX8_lineM_0 u (w1 := u1) (w2 := u2) (w3 := eU (eU u2 33 7 1) 33 8 (u2 33 10)) (w4 := eU (eU u2 33 7 1) 33 8 (u2 33 10)) (x := x) hu.2.1 (by omega) (by rw [fw 19 (by decide) (by decide)]; omega) (by rw [g8.1]; omega) w1 w2 w3 g1 (by rw [l1]; exact b4 u1 u2 g3 g4) g7 (g8.whole 0 _ ei (by rw [fw 18 (by decide) (by decide)]; omega))
        · intro _; exact ⟨rfl, rfl⟩
        · intro z; exfalso; rw [g8.1] at z; omega
    · obtain ⟨wc, h1', h2', h3'⟩ := y_advance wb Tb (by omega)
      have hc := h3'.b n4
      have Tc := h2'.tp Tb
      have e9c : wc 9 = w 9 := (h2'.1 9 (by decide)).trans e9b
      have e12c : wc 12 = w 12 := ((h2'.1 12 (by decide)).trans (c2.1 12 (by decide))).trans (a2.1 12 (by decide))
      rcases j_whole wb wc 0 (4 * w 9 1) ei (by omega) h1' Tc h3' with ⟨q, b1', b2', b3'⟩ | ⟨y, b1', b2', b3', b4'⟩
      · refine ⟨0, _, Cal.of (by decide +kernel) (Nat.le_of_ble_eq_true rfl) ?_, ((((a2.1.tr c2.1).tr h2'.1).mono (S' := [8, 9, 12]) (by decide)).put (i := 7) (v := q) (by decide)).put (i := 8) (v := wc 8 5) (by decide), ?_, Or.inl rfl, Or.inl ⟨rfl, q, wc 8 5, FC.at wc q, fun u hu w1 w2 w3 => ?_⟩⟩
        · apply tX3_readMark_0 w (w1 := wa) (w2 := wb) (w3 := eU (eU wc 8 7 q) 8 8 (wc 8 5)) (w4 := w) (o1 := 1) (o2 := 1) (o3 := 0) (x := x) (y := 0) (by omega) (by rw [e9b]; omega) (by decide) (by decide) (by decide) (by rw [eU_ne (by decide), eU_ne (by decide), e9c]; omega) b2 (fun _ => b3) (fun _ => f1) (fun _ _ => by rw [e9b]; exact b1') (fun _ _ z => absurd rfl z) (fun _ _ z => absurd rfl z) <;> (intros; first | with_reducible exact ⟨rfl, rfl⟩ | contradiction | (exfalso; omega))
        · rw [eU_get, if_neg (by decide), eU_get, if_neg (by decide)]; omega
        · obtain ⟨u1, g1, g2, g3⟩ := hu.go a2 a3
          obtain ⟨u2, g4, g5, g6⟩ := g3.go c2 c3
          obtain ⟨u3, g7, g8, g9⟩ := g6.go h2' h3'
          obtain ⟨v, i1, i2⟩ := b3' u3 g9
          obtain ⟨k1, k2, k3⟩ := hw17 hu rfl
          obtain ⟨l1, l2, l3⟩ := hw17 g3 e9a
          obtain ⟨m1, m2, m3⟩ := hw17 g9 e9c
          have fw : ∀ i, i ≠ 7 → i ≠ 8 → eU (eU u3 33 7 q) 33 8 (u3 33 10) 33 i = u3 33 i := fun i q1 q2 => by rw [eU_get, if_neg q2, eU_get, if_neg q1]
          refine ⟨_, Cal.of (by decide +kernel) (Nat.le_of_ble_eq_true rfl) ?_, i2, ((g2.fp.tr g5.fp).tr g8.fp).tr (FrP.at _ _)⟩
          apply tX8_lineM_0 u (w1 := u1) (w2 := u2) (w3 := u3) (w4 := eU (eU u3 33 7 q) 33 8 (u3 33 10)) (x := x) (y := v) hu.2.1 (by omega) (by rw [fw 19 (by decide) (by decide)]; omega) (by rw [i2.1]; omega) w1 w2 w3 g1 (by rw [l1]; exact b4 u1 u2 g3 g4) (f2 u2 u3 g6 g7) (by rw [m2]; exact i1)
          · intro _; exact ⟨rfl, rfl⟩
          · intro z; exfalso; rw [i2.1] at z; omega
      · generalize eD : eU (eU (eU wc 12 (2 * wc 9 2) x) 12 (2 * wc 9 2 + 1) y) 9 2 (wc 9 2 + 1) = wd
        have v8 : wd 8 = wc 8 := by rw [← eD, eU_ne (by decide), eU_ne (by decide), eU_ne (by decide)]
        have v9 : ∀ i, i ≠ 2 → wd 9 i = w 9 i := fun i hi => by rw [← eD, eU_get, if_neg hi, eU_ne (by decide), eU_ne (by decide), e9c]
        have v92 : wd 9 2 = w 9 2 + 1 := by rw [← eD, eU_get, if_pos rfl, e9c]
        have v12 : ∀ i, wd 12 i = if i = 2 * w 9 2 + 1 then y else if i = 2 * w 9 2 then x else w 12 i := fun i => by rw [← eD, eU_ne (by decide), eU_get, eU_get, e9c, e12c]
        have fd : Fr [9, 12] wc wd := by rw [← eD]; exact ((Fr.rf.put (by decide)).put (by decide)).put (by decide)
        have Td : TpC T n wd := ⟨Tc.1, by rw [v8]; exact Tc.2.1, by rw [fd 1 (by decide)]; exact Tc.2.2⟩
        obtain ⟨we, p1, p2, p3⟩ := y_advance wd Td (by rw [v8]; omega)
        have e83 : wd 8 3 = wc 8 3 := by rw [v8]
        have he := p3.b n4
        have e9e : we 9 = wd 9 := p2.1 9 (by decide)
        have Dd : DRF wd := by
          have Dc := ((hD.ad a2).ad c2).ad h2'
          obtain ⟨-, q2, q3, q4, q5, -⟩ := Dc
          refine ⟨by rw [v9 0 (by decide), v9 1 (by decide), v92]; omega, by rw [v8]; exact q2, ?_, by rw [fd 11 (by decide)]; exact q4, fun i i1 i2 => ?_, fun k k1 k2 => ?_⟩
          · rw [fd 10 (by decide), v9 0 (by decide), v9 1 (by decide), ← e9c]; exact q3
          · rw [v12]; have := d10 i i1 i2; (repeat' split) <;> omega
          · rw [v12, v12, v9 0 (by decide), v9 1 (by decide)]
            rw [v92] at k2
            by_cases ck : k = w 9 2
            · rw [if_neg (by omega), if_pos (by omega), if_pos (by omega)]; omega
            · have := d11 k k1 (by omega)
              rw [if_neg (by omega), if_neg (by omega), if_neg (by omega), if_neg (by omega)]
              exact this
        refine ⟨1, we, Cal.of (by decide +kernel) (Nat.le_of_ble_eq_true rfl) ?_, ((((a2.1.tr c2.1).tr h2'.1).mono (by decide)).tr (fd.mono (by decide))).tr (p2.1.mono (by decide)), by omega, Or.inr ⟨by rw [e9e, v9 0 (by decide)], by rw [e9e, v9 1 (by decide)]⟩, Or.inr ⟨rfl, RD.ad Td Dd p2 p3, fun u hu w1 w2 w3 => ?_⟩⟩
        · apply tX3_readMark_0 w (w1 := wa) (w2 := wb) (w3 := wc) (w4 := we) (o1 := 1) (o2 := 1) (o3 := 1) (x := x) (y := y) (by omega) (by rw [e9b]; omega) (by decide) (by decide) (by decide) (by rw [e9c]; omega) b2 (fun _ => b3) (fun _ => f1) (fun _ _ => by rw [e9b]; exact b2') (fun _ _ _ => b3') (fun _ _ _ => by rw [eD]; exact p1) <;> (intros; first | with_reducible exact ⟨rfl, rfl⟩ | contradiction | (exfalso; omega))
        · obtain ⟨u1, g1, g2, g3⟩ := hu.go a2 a3
          obtain ⟨u2, g4, g5, g6⟩ := g3.go c2 c3
          obtain ⟨u3, g7, g8, g9⟩ := g6.go h2' h3'
          rw [e83] at p3
          obtain ⟨u4, t1, t2, t3⟩ := y_goOn u3 g9.1 g9.2.1 g9.2.2.1.2.1 p3
          obtain ⟨k1, k2, k3⟩ := hw17 hu rfl
          obtain ⟨l1, l2, l3⟩ := hw17 g3 e9a
          obtain ⟨m1, m2, m3⟩ := hw17 g9 e9c
          have e19 : u4 33 19 = w 9 2 := (t2.2 19 (by decide) (by decide) (by decide) (by decide) (by decide) (by decide)).trans m3
          have e7 : u4 33 7 = 0 := (t2.2 7 (by decide) (by decide) (by decide) (by decide) (by decide) (by decide)).trans g9.2.1
          refine ⟨eU (eU (eU u4 37 (2 * u4 33 19) x) 37 (2 * u4 33 19 + 1) y) 33 19 (u4 33 19 + 1), Cal.of (by decide +kernel) (Nat.le_of_ble_eq_true rfl) ?_, ?_, (((((g2.fp.tr g5.fp).tr g8.fp).tr t2.fp).put (Or.inr (Or.inr (Or.inl rfl)))).put (Or.inr (Or.inr (Or.inl rfl)))).put (Or.inr (Or.inr (Or.inr ⟨rfl, by decide, by decide⟩)))⟩
          · apply tX8_lineM_0 u (w1 := u1) (w2 := u2) (w3 := u3) (w4 := u4) (x := x) (y := y) hu.2.1 (by omega) (by omega) (by omega) w1 w2 w3 g1 (by rw [l1]; exact b4 u1 u2 g3 g4) (f2 u2 u3 g6 g7) (by rw [m2]; exact b4' u3 u4 g9 t1)
            · intro z; exfalso; omega
            · intro _; exact ⟨rfl, rfl⟩
          · have z33 : ∀ i, i ≠ 19 → eU (eU (eU u4 37 (2 * u4 33 19) x) 37 (2 * u4 33 19 + 1) y) 33 19 (u4 33 19 + 1) 33 i = u4 33 i := fun i hi => by rw [eU_get, if_neg hi, eU_ne (by decide), eU_ne (by decide)]
            have z37 : ∀ i, eU (eU (eU u4 37 (2 * u4 33 19) x) 37 (2 * u4 33 19 + 1) y) 33 19 (u4 33 19 + 1) 37 i = if i = 2 * w 9 2 + 1 then y else if i = 2 * w 9 2 then x else u4 37 i := fun i => by rw [eU_ne (by decide), eU_get, eU_get, e19]
            have t4 := t2.tp g9.1
            obtain ⟨r1, r2, r3, r4, r5, r6, r7, r8⟩ := g9.2.2.2.md t2
            refine ⟨⟨t4.1, by rw [z33 5 (by decide)]; exact t4.2.1, by rw [eU_ne (by decide), eU_ne (by decide), eU_ne (by decide)]; exact t4.2.2⟩, by rw [z33 7 (by decide)]; exact e7, ?_, DR.ad ?_ p2⟩
            · unfold MTK; rw [z33 10 (by decide), z33 6 (by decide), z33 9 (by decide), z33 11 (by decide), z33 12 (by decide), z33 13 (by decide)]; exact t3
            · refine ⟨Or.inr ?_, ?_, ?_, ?_, ?_, ?_, fun i i1 i2 => ?_, fun i i1 i2 => ?_⟩
              · rw [z33 17 (by decide), v9 0 (by decide), t2.2 17 (by decide) (by decide) (by decide) (by decide) (by decide) (by decide)]; exact m1
              · rw [z33 18 (by decide), v9 1 (by decide), t2.2 18 (by decide) (by decide) (by decide) (by decide) (by decide) (by decide)]; exact m2
              · rw [eU_get, if_pos rfl, v92, e19]
              · rw [z33 20 (by decide), v8]; exact r4
              · rw [eU_ne (by decide), eU_ne (by decide), eU_ne (by decide), fd 10 (by decide)]; exact r5
              · rw [eU_ne (by decide), eU_ne (by decide), eU_ne (by decide), fd 11 (by decide)]; exact r6
              · rw [z37, v12]
                by_cases c1' : i = 2 * w 9 2 + 1
                · rw [if_pos c1', if_pos c1']
                · rw [if_neg c1', if_neg c1']
                  by_cases c2' : i = 2 * w 9 2
                  · rw [if_pos c2', if_pos c2']
                  · rw [v92] at i2
                    rw [if_neg c2', if_neg c2', ← e12c]
                    exact r7 i i1 (by rw [e9c]; omega)
              · rw [z37]
                have q := r8 i i1 i2
                by_cases c1' : i = 2 * w 9 2 + 1
                · rw [if_pos c1']; exact ⟨by omega, by omega, fun _ => by omega⟩
                · rw [if_neg c1']
                  by_cases c2' : i = 2 * w 9 2
                  · rw [if_pos c2']; exact ⟨by omega, by omega, fun z => by omega⟩
                  · rw [if_neg c2']; exact q

