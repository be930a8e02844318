/-- the reader at a token -/
def RD (T : Int → Int) (n : Int) (w : eW) : Prop := TpC T n w ∧ (∃ p, TOK T n p (w 8 5) (w 8 3) (w 8 4)) ∧ DRF w
theorem RD.ad {T : Int → Int} {n : Int} {w w1 : eW} (hT : TpC T n w) (hD : DRF w) (a : AD w w1) (ht : TOK T n (w 8 3) (w1 8 5) (w1 8 3) (w1 8 4)) : RD T n w1 := ⟨a.tp hT, ⟨_, ht⟩, hD.ad a⟩
theorem FM.sign {q pl : Int} {u : eW} (h : FM q pl u) (c : Int) (hc : eI c) : Cal mX8_isSign [eR 33, (0, c)] u (some (0, 0)) u := by
  obtain ⟨h1, h2, h3, ⟨t1, t2, t3⟩, h5⟩ := h
  exact y_isSignF (by omega) t1 (fun z => t2.resolve_left (fun y => y z)) c hc
theorem FM.line22 {q pl : Int} {u : eW} (h : FM q pl u) : Go mX8_readHouse 22 [(0, eR 33)] [] u none u := tX8_readHouse0_22 u (h.sign 47 (by decide)) ⟨rfl, rfl⟩
theorem j_rowsL {T : Int → Int} {n : Int} : ∀ (m : Nat) (i : Int) (w : eW), (n - w 8 3).toNat < m → RD T n w → w 9 2 = 0 → 1 ≤ w 9 1 → 1 ≤ w 9 0 → 0 ≤ i → i ≤ w 8 3 →
    ∃ ok w1, Go mX3_readRows 19 [(0, eR 8), (1, (0, i))] [] w (some (0, ok)) w1 ∧ Fr [8, 9, 10] w w1 ∧ (ok = 0 ∨ (w1 8 2 = w 8 2 ∧ w1 8 6 = w 8 6)) ∧
      ((ok = 0 ∧ ∃ q pl, FC q pl w1 ∧ ∀ u, MR T n w u → ∃ u1, Go mX8_readHouse 22 [(0, eR 33)] [] u none u1 ∧ FM q pl u1 ∧ FrP u u1) ∨
       (ok = 1 ∧ RD T n w1 ∧ w1 9 2 = 0 ∧ 1 ≤ w1 9 1 ∧ 1 ≤ w1 9 0 ∧ ∀ u, MR T n w u → ∃ u1, Go mX8_readHouse 22 [(0, eR 33)] [] u none u1 ∧ MR T n w1 u1 ∧ FrP u u1)) := by
  intro m
  induction m with
  | zero => intro i w hm; exact absurd hm (Nat.not_lt_zero _)
  | succ m ih =>
    intro i w hm hR h0 h1 h2 hi1 hi2
    obtain ⟨hT, ⟨p, hk⟩, hD⟩ := id hR
    have n4 := hT.1.2
    have hb := hk.b n4
    by_cases c : w 8 4 = 47
    · obtain ⟨wa, a1, a2, a3, a4⟩ := j_adv w hT (by omega)
      have ha := a3.b n4
      have Ta := a2.tp hT
      have Da := hD.ad a2
      have e9a : wa 9 = w 9 := a2.1 9 (by decide)
      obtain ⟨ok, wb, b1, b2, b3⟩ := j_row wa Ta a3 Da (by rw [e9a]; exact h0)
      rcases b3 with ⟨e, q, f1, f2⟩ | ⟨e, f0, f1, f2, f3, f4, f5, f6⟩
      · subst e
        refine ⟨0, wb, ?_, ((a2.1.mono (by decide)).tr b2), Or.inl rfl, Or.inl ⟨rfl, q, wa 8 5, f1, fun u hu => ?_⟩⟩
        · apply tX3_readRows_19 w i (w1 := wa) (w2 := wb) (w3 := wb) (ok := 0) (by omega) (by omega) (by decide) (fun _ => a1) (fun _ => b1) (fun _ z => absurd rfl z) <;> (intros; first | with_reducible exact ⟨rfl, rfl⟩ | contradiction | (exfalso; omega))
        · obtain ⟨u1, g1, g2, g3⟩ := a4 u hu.1 hu.2.1 hu.2.2.1.2.1 hu.2.2.2
          obtain ⟨u2, g4, g5, g6⟩ := f2 u1 g3
          have gs := y_isSign n4 hk hu.2.1 hu.2.2.1 47 (by decide)
          rw [if_pos c] at gs
          exact ⟨u2, tX8_readHouse1_22 u gs g1 g4 g5.line22, g5, g2.fp.tr g6⟩
      · subst e
        have Tb : TpC T n wb := ⟨Ta.1, by rw [f1]; exact Ta.2.1, by rw [b2 1 (by decide)]; exact Ta.2.2⟩
        have e83 : wb 8 3 = wa 8 3 := by rw [f1]
        obtain ⟨wc, c1, c2, c3, c4⟩ := j_adv wb Tb (by omega)
        have hc := c3.b n4
        have e9c : wc 9 = wb 9 := c2.1 9 (by decide)
        obtain ⟨ok, wd, d1, d2, d3, d4⟩ := ih (i + 1) wc (by omega) (RD.ad Tb f2 c2 c3) (by rw [e9c]; exact f3) (by rw [e9c]; exact f4) (by rw [e9c]; exact f5) (by omega) (by omega)
        have hok : 0 ≤ ok ∧ ok ≤ 1 := by
          rcases d4 with ⟨z, -⟩ | ⟨z, -⟩
          · omega
          · omega
        refine ⟨ok, wd, ?_, (((a2.1.mono (by decide)).tr b2).tr (c2.1.mono (by decide))).tr d2, d3.imp id (fun z => ?_), ?_⟩
        · apply tX3_readRows_19 w i (w1 := wa) (w2 := wb) (w3 := wc) (ok := 1) (by omega) (by omega) (by decide) (fun _ => a1) (fun _ => b1) (fun _ _ => c1)
          · intro z; exfalso; omega
          · intro _ _ z; exfalso; omega
          · intro _ _ _; exact d1
          · intro _ z; exact absurd c z
        · rw [z.1, z.2, c2.2 2 (by decide) (by decide) (by decide), c2.2 6 (by decide) (by decide) (by decide), f1, a2.2 2 (by decide) (by decide) (by decide), a2.2 6 (by decide) (by decide) (by decide)]
          exact ⟨rfl, rfl⟩
        · have step : ∀ u, MR T n w u → ∃ u2, MR T n wc u2 ∧ FrP u u2 ∧ ∀ w9, Go mX8_readHouse 22 [(0, eR 33)] [] u2 none w9 → Go mX8_readHouse 22 [(0, eR 33)] [] u none w9 := by
            intro u hu
            obtain ⟨u1, g1, g2, g3⟩ := a4 u hu.1 hu.2.1 hu.2.2.1.2.1 hu.2.2.2
            obtain ⟨u2, g4, g5, g6⟩ := f6 wc c2 c3 u1 g3
            have gs := y_isSign n4 hk hu.2.1 hu.2.2.1 47 (by decide)
            rw [if_pos c] at gs
            exact ⟨u2, g5, g2.fp.tr g6, fun w9 g => tX8_readHouse1_22 u gs g1 g4 g⟩
          rcases d4 with ⟨z, q, pl, y1, y2⟩ | ⟨z, y1, y2, y3, y4, y5⟩
          · refine Or.inl ⟨z, q, pl, y1, fun u hu => ?_⟩
            obtain ⟨u2, s1, s2, s3⟩ := step u hu
            obtain ⟨u3, t1, t2, t3⟩ := y2 u2 s1
            exact ⟨u3, s3 _ t1, t2, s2.tr t3⟩
          · refine Or.inr ⟨z, y1, y2, y3, y4, fun u hu => ?_⟩
            obtain ⟨u2, s1, s2, s3⟩ := step u hu
            obtain ⟨u3, t1, t2, t3⟩ := y5 u2 s1
            exact ⟨u3, s3 _ t1, t2, s2.tr t3⟩
    · refine ⟨1, w, ?_, Fr.rf, Or.inr ⟨rfl, rfl⟩, Or.inr ⟨rfl, hR, h0, h1, h2, fun u hu => ⟨u, ?_, hu, FrP.rf⟩⟩⟩
      · apply tX3_readRows_19 w i (w1 := w) (w2 := w) (w3 := w) (ok := 0) (by omega) (by omega) (by decide) (fun z => absurd z c) (fun z => absurd z c) (fun z => absurd z c) <;> (intros; first | with_reducible exact ⟨rfl, rfl⟩ | contradiction | (exfalso; omega))
      · have gs := y_isSign n4 hk hu.2.1 hu.2.2.1 47 (by decide)
        rw [if_neg c] at gs
        exact tX8_readHouse0_22 u gs ⟨rfl, rfl⟩
/-- the house's rows, from its word on -/
theorem j_rows {T : Int → Int} {n : Int} (w : eW) (hR : RD T n w) (h0 : w 9 2 = 0) :
    ∃ ok w1, Cal mX3_readRows [eR 8] w (some (0, ok)) w1 ∧ Fr [8, 9, 10] w w1 ∧ (ok = 0 ∨ w1 8 6 = w 8 6) ∧
      ((ok = 0 ∧ ∃ q pl, FC q pl w1 ∧ ∀ u, MR T n w u → Cal mX8_isWord [eR 33, eR 113] u (some (0, 1)) u → ∃ u1, Cal mX8_readHouse [eR 33] u none u1 ∧ FM q pl u1 ∧ FrP u u1) ∨
       (ok = 1 ∧ RD T n w1 ∧ w1 9 2 = 0 ∧ 1 ≤ w1 9 1 ∧ 1 ≤ w1 9 0 ∧ ∀ u, MR T n w u → Cal mX8_isWord [eR 33, eR 113] u (some (0, 1)) u → ∃ u1, Cal mX8_readHouse [eR 33] u none u1 ∧ MR T n w1 u1 ∧ FrP u u1)) := by
  obtain ⟨hT, ⟨p, hk⟩, hD⟩ := id hR
  have n4 := hT.1.2
  have hb := hk.b n4
  obtain ⟨wa, a1, a2, a3, a4⟩ := j_adv w hT (by omega)
  have ha := a3.b n4
  have Ta := a2.tp hT
  have Da := hD.ad a2
  have e9a : wa 9 = w 9 := a2.1 9 (by decide)
  obtain ⟨ok, wb, b1, b2, b3⟩ := j_row wa Ta a3 Da (by rw [e9a]; exact h0)
  rcases b3 with ⟨e, q, f1, f2⟩ | ⟨e, f0, f1, f2, f3, f4, f5, f6⟩
  · subst e
    refine ⟨0, wb, Cal.of (by decide +kernel) (Nat.le_of_ble_eq_true rfl) ?_, ((a2.1.mono (by decide)).tr b2), Or.inl rfl, Or.inl ⟨rfl, q, wa 8 5, f1, fun u hu hw => ?_⟩⟩
    · apply tX3_readRows_0 w (w1 := wa) (w2 := wb) (w3 := wb) (ok := 0) (by decide) a1 b1 (fun z => absurd rfl z) <;> (intros; first | with_reducible exact ⟨rfl, rfl⟩ | contradiction | (exfalso; omega))
    · obtain ⟨u1, g1, g2, g3⟩ := a4 u hu.1 hu.2.1 hu.2.2.1.2.1 hu.2.2.2
      obtain ⟨u2, g4, g5, g6⟩ := f2 u1 g3
      exact ⟨u2, Cal.of (by decide +kernel) (Nat.le_of_ble_eq_true rfl) (tX8_readHouse_0 u hu.2.1 hw g1 g4 g5.line22), g5, g2.fp.tr g6⟩
  · subst e
    have Tb : TpC T n wb := ⟨Ta.1, by rw [f1]; exact Ta.2.1, by rw [b2 1 (by decide)]; exact Ta.2.2⟩
    have e83 : wb 8 3 = wa 8 3 := by rw [f1]
    obtain ⟨wc, c1, c2, c3, c4⟩ := j_adv wb Tb (by omega)
    have hc := c3.b n4
    have e9c : wc 9 = wb 9 := c2.1 9 (by decide)
    obtain ⟨ok, wd, d1, d2, d3, d4⟩ := j_rowsL ((n - wc 8 3).toNat + 1) 0 wc (by omega) (RD.ad Tb f2 c2 c3) (by rw [e9c]; exact f3) (by rw [e9c]; exact f4) (by rw [e9c]; exact f5) (by omega) (by omega)
    refine ⟨ok, wd, Cal.of (by decide +kernel) (Nat.le_of_ble_eq_true rfl) ?_, (((a2.1.mono (by decide)).tr b2).tr (c2.1.mono (by decide))).tr d2, d3.imp id (fun z => ?_), ?_⟩
    · apply tX3_readRows_0 w (w1 := wa) (w2 := wb) (w3 := wc) (ok := 1) (by decide) a1 b1 (fun _ => c1)
      · intro z; exfalso; omega
      · intro _; exact d1
    · rw [z.2, c2.2 6 (by decide) (by decide) (by decide), f1, a2.2 6 (by decide) (by decide) (by decide)]
    · have step : ∀ u, MR T n w u → Cal mX8_isWord [eR 33, eR 113] u (some (0, 1)) u → ∃ u2, MR T n wc u2 ∧ FrP u u2 ∧ ∀ w9, Go mX8_readHouse 22 [(0, eR 33)] [] u2 none w9 → Cal mX8_readHouse [eR 33] u none w9 := by
        intro u hu hw
        obtain ⟨u1, g1, g2, g3⟩ := a4 u hu.1 hu.2.1 hu.2.2.1.2.1 hu.2.2.2
        obtain ⟨u2, g4, g5, g6⟩ := f6 wc c2 c3 u1 g3
        exact ⟨u2, g5, g2.fp.tr g6, fun w9 g => Cal.of (by decide +kernel) (Nat.le_of_ble_eq_true rfl) (tX8_readHouse_0 u hu.2.1 hw g1 g4 g)⟩
      rcases d4 with ⟨z, q, pl, y1, y2⟩ | ⟨z, y1, y2, y3, y4, y5⟩
      · refine Or.inl ⟨z, q, pl, y1, fun u hu hw => ?_⟩
        obtain ⟨u2, s1, s2, s3⟩ := step u hu hw
        obtain ⟨u3, t1, t2, t3⟩ := y2 u2 s1
        exact ⟨u3, s3 _ t1, t2, s2.tr t3⟩
      · refine Or.inr ⟨z, y1, y2, y3, y4, fun u hu hw => ?_⟩
        obtain ⟨u2, s1, s2, s3⟩ := step u hu hw
        obtain ⟨u3, t1, t2, t3⟩ := y5 u2 s1
        exact ⟨u3, s3 _ t1, t2, s2.tr t3⟩

