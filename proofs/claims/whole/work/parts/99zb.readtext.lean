theorem DRF.db {w : eW} (h : DRF w) : DB w := ⟨h.1, fun i i1 i2 => (h.2.2.1 i i1 i2).1, fun i i1 i2 => by have := h.2.2.2.1 i i1 i2; omega, h.2.2.2.2.1⟩
theorem cnt9_same {w u : eW} (hD : DRF w) (hR : DR w u) : sumI (u 35) 0 140 = cnt9 w := by
  obtain ⟨⟨d1, d2, d3, d4, d5, d6⟩, d7, d8, -⟩ := id hD
  have h1 := sumI_rows (u 35) 10
  rw [show 14 * ((10 : Nat) : Int) = 140 by decide, show ((10 : Nat) : Int) = 10 by decide] at h1
  rw [h1]
  unfold cnt9
  have e : ∀ y, 0 ≤ y → y < 10 → sumI (fun x => u 35 (14 * y + x)) 0 14 = popI (w 10 y) := by
    intro y y1 y2
    rw [popI_bI]
    refine sumI_congr (fun x x1 x2 => ?_)
    rw [hR.2.2.2.2.1 x y x1 x2 y1 y2]
    by_cases hb : hb14 (w 10 y) x
    · rw [bI_1 hb]; exact hb.2.2
    · rw [bI_0 hb]
      rcases bitv_01 (w 10 y) x with q | q
      · exact q
      · exact absurd ⟨x1, x2, q⟩ hb
  rw [sumI_congr (g := fun y => popI (w 10 y)) e, sumI_split _ (show (0 : Int) ≤ w 9 1 from d3) d4]
  rw [sumI_z (a := w 9 1) (b := 10), Int.add_zero]
  intro y y1 y2
  rw [popI_bI]
  refine sumI_z (fun x x1 x2 => bI_0 (fun q => ?_))
  have := (d8 y (by omega) y2).2 x x1 x2 q.2.2
  omega
/-- the model ends with a fault -/
def TF (q pl : Int) (u : eW) (go : eW → Prop) : Prop := ∃ u1, go (eU (eU u1 33 1 4) 33 2 pl) ∧ u1 33 7 = q ∧ MO7 u1 ∧ FrP u u1
theorem FM.text {q pl : Int} {u u0 : eW} (h : FM q pl u) (hF : FrP u0 u) : TF q pl u0 (fun w9 => Go mX8_text 108 [(0, eR 33)] [] u (some (0, -1)) w9) := by
  have hs := h.sign 59 (by decide)
  obtain ⟨h1, h2, h3, h4, h5⟩ := h
  refine ⟨u, tX8_text0_108 u hs ?_, h1, h5, hF⟩
  rw [← h2]
  exact tX8_textF_128 u (by omega) ⟨rfl, rfl⟩
theorem j_textL {T : Int → Int} {n : Int} : ∀ (m : Nat) (i : Int) (w : eW), (n - w 8 3).toNat < m → RD T n w → 1 ≤ w 9 1 → 1 ≤ w 9 0 → 0 ≤ i → i ≤ w 8 3 →
    ∃ ok w1, Go mX3_readText 62 [(0, eR 8), (2, (0, i))] [] w (some (0, ok)) w1 ∧ Fr [8, 9, 11, 12] w w1 ∧ (0 ≤ ok ∧ ok ≤ 1) ∧
      ((ok = 0 ∧ ∃ q pl, FC q pl w1 ∧ ∀ u, MR T n w u → TF q pl u (fun w9 => Go mX8_text 108 [(0, eR 33)] [] u (some (0, -1)) w9)) ∨
       (ok = 1 ∧ DRF w1 ∧ 1 ≤ w1 9 1 ∧ 1 ≤ w1 9 0 ∧ 0 < cnt9 w1 ∧ ∀ u, MR T n w u → ∃ u1, FrP u u1 ∧ u1 33 7 = 0 ∧ DR w1 u1 ∧ ∀ r w9, Go mX8_text 215 [(0, eR 33), (2, (0, 0))] [] (eU (eU (eU u1 33 24 (u1 33 17)) 33 25 (u1 33 18)) 33 26 (u1 33 19)) r w9 → Go mX8_text 108 [(0, eR 33)] [] u r w9)) := by
  intro m
  induction m with
  | zero => intro i w hm; exact absurd hm (Nat.not_lt_zero _)
  | succ m ih =>
    intro i w hm hR h1 h0 hi1 hi2
    obtain ⟨hT, ⟨p, hk⟩, hD⟩ := id hR
    have n4 := hT.1.2
    have hb := hk.b n4
    by_cases c : w 8 4 = 59
    · obtain ⟨wa, a1, a2, a3⟩ := y_advance w hT (by omega)
      have ha := a3.b n4
      have e9a : wa 9 = w 9 := a2.1 9 (by decide)
      obtain ⟨ok, wb, b1, b2, b3, b4⟩ := j_line wa (a2.tp hT) a3 (hD.ad a2) (by rw [e9a]; exact h1)
      have gs : ∀ u, MR T n w u → Cal mX8_isSign [eR 33, (0, 59)] u (some (0, 1)) u := by
        intro u hu
        have := y_isSign n4 hk hu.2.1 hu.2.2.1 59 (by decide)
        rw [if_pos c] at this
        exact this
      rcases b4 with ⟨e, q, pl, f1, f2⟩ | ⟨e, f1, f2, f3, f4⟩
      · subst e
        refine ⟨0, wb, ?_, (a2.1.mono (by decide)).tr b2, by decide, Or.inl ⟨rfl, q, pl, f1, fun u hu => ?_⟩⟩
        · apply tX3_readText_62 w i (w1 := wa) (w2 := wb) (ok := 0) (by omega) (by omega) (by decide) (fun _ => a1) (fun _ => b1)
          · intro z; exfalso; omega
          · intro _ _ _; exact ⟨rfl, rfl⟩
          · intro _ _ z; exact absurd rfl z
          · intro _ z; exact absurd c z
        · obtain ⟨u1, g1, g2, g3⟩ := hu.go a2 a3
          obtain ⟨u2, g4, g5, g6⟩ := f2 u1 g3
          obtain ⟨u3, t1, t2, t3, t4⟩ := g5.text (u0 := u) (g2.fp.tr g6)
          exact ⟨u3, tX8_text1_108 u (gs u hu) g1 g4 t1, t2, t3, t4⟩
      · subst e
        have hps := a3.2.1
        obtain ⟨-, ⟨pb, hkb⟩, -⟩ := id f1
        have hbb := hkb.b n4
        obtain ⟨ok, wd, d1, d2, d3, d4⟩ := ih (i + 1) wb (by omega) f1 (by rw [f3.2, e9a]; exact h1) (by rw [f3.1, e9a]; exact h0) (by omega) (by omega)
        have step : ∀ u, MR T n w u → ∃ u2, MR T n wb u2 ∧ FrP u u2 ∧ ∀ r w9, Go mX8_text 108 [(0, eR 33)] [] u2 r w9 → Go mX8_text 108 [(0, eR 33)] [] u r w9 := by
          intro u hu
          obtain ⟨u1, g1, g2, g3⟩ := hu.go a2 a3
          obtain ⟨u2, g4, g5, g6⟩ := f4 u1 g3
          exact ⟨u2, g5, g2.fp.tr g6, fun r w9 g => tX8_text1_108 u (gs u hu) g1 g4 g⟩
        refine ⟨ok, wd, ?_, ((a2.1.mono (by decide)).tr b2).tr d2, d3, ?_⟩
        · apply tX3_readText_62 w i (w1 := wa) (w2 := wb) (ok := 1) (by omega) (by omega) (by decide) (fun _ => a1) (fun _ => b1)
          · intro z; exfalso; omega
          · intro _ _ z; exact absurd z (by decide)
          · intro _ _ _; exact d1
          · intro _ z; exact absurd c z
        · rcases d4 with ⟨z, q, pl, y1, y2⟩ | ⟨z, y1, y2, y3, y4, y5⟩
          · refine Or.inl ⟨z, q, pl, y1, fun u hu => ?_⟩
            obtain ⟨u2, s1, s2, s3⟩ := step u hu
            obtain ⟨u3, t1, t2, t3, t4⟩ := y2 u2 s1
            exact ⟨u3, s3 _ _ t1, t2, t3, s2.tr t4⟩
          · refine Or.inr ⟨z, y1, y2, y3, y4, fun u hu => ?_⟩
            obtain ⟨u2, s1, s2, s3⟩ := step u hu
            obtain ⟨u3, t1, t2, t3, t4⟩ := y5 u2 s1
            exact ⟨u3, s2.tr t1, t2, t3, fun r w9 g => s3 _ _ (t4 r w9 g)⟩
    · have gs : ∀ u, MR T n w u → Cal mX8_isSign [eR 33, (0, 59)] u (some (0, 0)) u := by
        intro u hu
        have := y_isSign n4 hk hu.2.1 hu.2.2.1 59 (by decide)
        rw [if_neg c] at this
        exact this
      have cls : ∀ {r : Option eV} {w9 : eW}, Go mX3_readText 97 [(0, eR 8)] [] w r w9 → Go mX3_readText 62 [(0, eR 8), (2, (0, i))] [] w r w9 := by
        intro r w9 g
        apply tX3_readText_62 w i (w1 := w) (w2 := w) (ok := 0) (by omega) (by omega) (by decide) (fun z => absurd z c) (fun z => absurd z c)
        · intro _; exact g
        · intro _ z; exact absurd z c
        · intro _ z; exact absurd z c
        · intro _ _; exact g
      have ff : ∀ q : Int, Fr [8, 9, 11, 12] w (eU (eU w 8 7 q) 8 8 (w 8 5)) := fun q => (Fr.rf.put (by decide)).put (by decide)
      have fin : ∀ (q : Int) (u : eW), MR T n w u → (1 ≤ q ∧ q ≤ 5) → Go mX8_text 128 [(0, eR 33)] [] u (some (0, -1)) (eU (eU (eU (eU u 33 7 q) 33 8 (u 33 10)) 33 1 4) 33 2 (u 33 10)) → TF q (w 8 5) u (fun w9 => Go mX8_text 108 [(0, eR 33)] [] u (some (0, -1)) w9) := by
        intro q u hu hq g
        have hf := FM.at hu hk q hq
        refine ⟨eU (eU u 33 7 q) 33 8 (u 33 10), tX8_text0_108 u (gs u hu) ?_, hf.1, hf.2.2.2.2, FrP.at _ _⟩
        rw [hu.2.2.1.1] at g ⊢
        exact g
      by_cases c0 : w 8 4 = 0
      · have hc := cnt9_bound hD.db
        have gc := y_X0_countInside9 w hD.db
        have tok : ∀ u, MR T n w u → u 33 9 = 1 := by
          intro u hu
          have m3 := hu.2.2.1.2.2
          rw [c0] at m3
          rcases m3 with ⟨-, z⟩ | ⟨z, -⟩ | ⟨z, -⟩ | ⟨z, -⟩ | ⟨z, -⟩
          · exact z
          · exact absurd z (by decide)
          · exact absurd z (by decide)
          · omega
          · exact absurd z (by decide)
        have gm : ∀ u, MR T n w u → Cal mX8_manyRead [eR 33] u (some (0, cnt9 w)) u := by
          intro u hu
          have := y_X8_manyRead u
          rw [cnt9_same hD hu.2.2.2] at this
          exact this
        by_cases cc : 0 < cnt9 w
        · refine ⟨1, w, cls ?_, Fr.rf, by decide, Or.inr ⟨rfl, hD, h1, h0, cc, fun u hu => ⟨u, FrP.rf, hu.2.1, hu.2.2.2, fun r w9 g => ?_⟩⟩⟩
          · apply tX3_readText_97 w (c := cnt9 w) (by omega) (by omega) (fun _ => gc) <;> (intros; first | with_reducible exact ⟨rfl, rfl⟩ | contradiction | (exfalso; omega))
          · refine tX8_text0_108 u (gs u hu) ?_
            apply tX8_textE_128 u (c := cnt9 w) hu.2.1 (tok u hu) (by omega) (gm u hu)
            · intro z; exfalso; omega
            · intro _; exact g
        · refine ⟨0, _, cls ?_, ff 5, by decide, Or.inl ⟨rfl, 5, w 8 5, FC.at w 5, fun u hu => fin 5 u hu (by decide) ?_⟩⟩
          · apply tX3_readText_97 w (c := cnt9 w) (by omega) (by omega) (fun _ => gc) <;> (intros; first | with_reducible exact ⟨rfl, rfl⟩ | contradiction | (exfalso; omega))
          · apply tX8_textE_128 u (c := cnt9 w) hu.2.1 (tok u hu) (by omega) (gm u hu)
            · intro _; exact ⟨rfl, rfl⟩
            · intro z; exfalso; omega
      · refine ⟨0, _, cls ?_, ff 1, by decide, Or.inl ⟨rfl, 1, w 8 5, FC.at w 1, fun u hu => fin 1 u hu (by decide) ?_⟩⟩
        · apply tX3_readText_97 w (c := 0) (by omega) (by decide) (fun z => absurd z c0) <;> (intros; first | with_reducible exact ⟨rfl, rfl⟩ | contradiction | (exfalso; omega))
        · have ht := (hu.tkb hk).1
          have m3 := hu.2.2.1.2.2
          have h9 : ¬ u 33 9 = 1 := by
            rcases m3 with ⟨z, -⟩ | ⟨-, z, -⟩ | ⟨-, z, -⟩ | ⟨-, z, -⟩ | ⟨-, z⟩
            · exact absurd z c0
            · omega
            · omega
            · omega
            · omega
          exact tX8_textN_128 u hu.2.1 h9 ht ⟨rfl, rfl⟩
/-- the model's world as its reading begins -/
def MS (T : Int → Int) (n : Int) (u : eW) : Prop := TpM T n u ∧ u 33 7 = 0 ∧ u 33 6 = 0 ∧ (∀ k, 0 ≤ k → k < 140 → u 35 k = 0) ∧ (∀ k, 0 ≤ k → k < 4 → u 36 k = 1) ∧ MO7 u ∧ u 33 18 = 0 ∧ u 33 19 = 0 ∧ u 33 20 = 0
theorem j_text {T : Int → Int} {n : Int} (w : eW) (hn : 0 ≤ n ∧ n ≤ 400) (hT : ∀ j, 0 ≤ j → j < 400 → w 1 j % 256 = T j) :
    ∃ ok w1, Cal mX3_readText [eR 8, (0, n)] w (some (0, ok)) w1 ∧ Fr [8, 9, 10, 11, 12] w w1 ∧ (0 ≤ ok ∧ ok ≤ 1) ∧
      ((ok = 0 ∧ ∃ q pl, FC q pl w1 ∧ ∀ u, MS T n u → ∃ u1 u2, Cal mX8_goOn [eR 33] u none u1 ∧ Cal mX8_readHouse [eR 33] u1 none u2 ∧ TF q pl u (fun w9 => Go mX8_text 108 [(0, eR 33)] [] u2 (some (0, -1)) w9)) ∨
       (ok = 1 ∧ DRF w1 ∧ 1 ≤ w1 9 1 ∧ 1 ≤ w1 9 0 ∧ 0 < cnt9 w1 ∧ ∀ u, MS T n u → ∃ u1 u2 u3, Cal mX8_goOn [eR 33] u none u1 ∧ Cal mX8_readHouse [eR 33] u1 none u2 ∧ FrP u u3 ∧ u3 33 7 = 0 ∧ DR w1 u3 ∧ ∀ r w9, Go mX8_text 215 [(0, eR 33), (2, (0, 0))] [] (eU (eU (eU u3 33 24 (u3 33 17)) 33 25 (u3 33 18)) 33 26 (u3 33 19)) r w9 → Go mX8_text 108 [(0, eR 33)] [] u2 r w9)) := by
  generalize e0 : wX0_clear (eU (eU (eU (eU (eU w 8 2 n) 8 3 0) 8 6 0) 8 7 0) 8 8 (-1)) = w0
  have v8 : ∀ i, w0 8 i = if i = 8 then -1 else if i = 7 then 0 else if i = 6 then 0 else if i = 3 then 0 else if i = 2 then n else w 8 i := fun i => by
    rw [← e0]; unfold wX0_clear
    rw [eFill_ne (by decide), eFill_ne (by decide), eFill_ne (by decide), eU_ne (by decide), eU_ne (by decide), eU_ne (by decide), eU_get, eU_get, eU_get, eU_get, eU_get]
  have v9 : w0 9 0 = 0 ∧ w0 9 1 = 0 ∧ w0 9 2 = 0 := by
    rw [← e0]; unfold wX0_clear
    rw [eFill_ne (by decide), eFill_ne (by decide), eFill_ne (by decide)]
    exact ⟨by rw [eU_get, if_neg (by decide), eU_get, if_neg (by decide), eU_get, if_pos rfl], by rw [eU_get, if_neg (by decide), eU_get, if_pos rfl], by rw [eU_get, if_pos rfl]⟩
  have v10 : ∀ i, 0 ≤ i → i < 10 → w0 10 i = 0 := fun i i1 i2 => by
    rw [← e0]; unfold wX0_clear
    rw [eFill_ne (by decide), eFill_ne (by decide), eFill_at, if_pos ⟨i1, i2⟩]
  have v11 : ∀ i, 0 ≤ i → i < 4 → w0 11 i = 1 := fun i i1 i2 => by
    rw [← e0]; unfold wX0_clear
    rw [eFill_ne (by decide), eFill_at, if_pos ⟨i1, i2⟩]
  have v12 : ∀ i, 0 ≤ i → i < 16 → w0 12 i = 0 := fun i i1 i2 => by
    rw [← e0]; unfold wX0_clear
    rw [eFill_at, if_pos ⟨i1, i2⟩]
  have fr0 : Fr [8, 9, 10, 11, 12] w w0 := by
    intro k hk
    simp only [List.mem_cons, List.not_mem_nil, or_false, not_or] at hk
    obtain ⟨q1, q2, q3, q4, q5⟩ := hk
    rw [← e0]; unfold wX0_clear
    rw [eFill_ne q5, eFill_ne q4, eFill_ne q3, eU_ne q2, eU_ne q2, eU_ne q2, eU_ne q1, eU_ne q1, eU_ne q1, eU_ne q1, eU_ne q1]
  have b0 : ∀ x, bitv 0 x = 0 := fun x => by unfold bitv; rw [Int.zero_ediv]; rfl
  have T0 : TpC T n w0 := ⟨hn, by rw [v8]; rfl, by rw [fr0 1 (by decide)]; exact hT⟩
  have D0 : DRF w0 := by
    refine ⟨by omega, ⟨by rw [v8]; show (0 : Int) ≤ 0; decide, by rw [v8]; show (0 : Int) ≤ 1; decide, by rw [v8]; rfl⟩, fun y y1 y2 => ?_, fun s s1 s2 => by rw [v11 s s1 s2]; decide, fun i i1 i2 => by rw [v12 i i1 i2]; decide, fun k k1 k2 => by omega⟩
    rw [v10 y y1 y2]
    exact ⟨by decide, fun x x1 x2 z => absurd (b0 x) (by rw [z]; decide)⟩
  have e3 : w0 8 3 = 0 := by rw [v8]; rfl
  obtain ⟨wa, a1, a2, a3⟩ := y_advance w0 T0 (by omega)
  have n4 := hn.2
  have ha := a3.b n4
  have Ta := a2.tp T0
  have M0 : ∀ u, MS T n u → ∃ u1, Cal mX8_goOn [eR 33] u none u1 ∧ MD u u1 ∧ MR T n wa u1 := by
    rintro u ⟨s1, s2, s3, s4, s5, s6, s7, s8, s9⟩
    have hr : DR w0 u := by
      refine ⟨Or.inl v9.2.1, by rw [s7, v9.2.1], by rw [s8, v9.2.2], by rw [s9, v8]; rfl, fun x y x1 x2 y1 y2 => ?_, fun s q1 q2 => by rw [s5 s q1 q2, v11 s q1 q2], fun i i1 i2 => by omega, s6⟩
      rw [s4 _ (by omega) (by omega), v10 y y1 y2, b0]
    obtain ⟨u1, g1, g2, g3⟩ := y_goOn u s1 s2 (s3.trans e3.symm) a3
    exact ⟨u1, g1, g2, g2.tp s1, (g2.2 7 (by decide) (by decide) (by decide) (by decide) (by decide) (by decide)).trans s2, g3, (hr.ad a2).md g2⟩
  have gw := y_isWord110 Ta a3 rfl rfl rfl
  have e9a : wa 9 = w0 9 := a2.1 9 (by decide)
  by_cases cH : IW T (wa 8 5) (wa 8 3) (wa 8 4) [104, 111, 117, 115, 101]
  · rw [bI_1 cH] at gw
    have mw : ∀ u1, MR T n wa u1 → Cal mX8_isWord [eR 33, eR 113] u1 (some (0, 1)) u1 := by
      intro u1 hu1
      have := y_isWord113 n4 a3 hu1.2.1 hu1.2.2.1
      rw [bI_1 cH] at this
      exact this
    obtain ⟨ok, wb, b1, b2, b3, b4⟩ := j_rows wa (RD.ad T0 D0 a2 a3) (by rw [e9a]; exact v9.2.2)
    rcases b4 with ⟨z, q, pl, y1, y2⟩ | ⟨z, y1, y2, y3, y4, y5⟩
    · subst z
      refine ⟨0, wb, Cal.of (by decide +kernel) (Nat.le_of_ble_eq_true rfl) ?_, (fr0.tr (a2.1.mono (by decide))).tr (b2.mono (by decide)), by decide, Or.inl ⟨rfl, q, pl, y1, fun u hu => ?_⟩⟩
      · apply tX3_readText_0 w n (w1 := wa) (w2 := wb) (b := 1) (ok := 0) (by decide) (by decide) (by rw [e0]; exact a1) gw (fun _ => b1) <;> (intros; first | with_reducible exact ⟨rfl, rfl⟩ | contradiction | (exfalso; omega))
      · obtain ⟨u1, g1, g2, g3⟩ := M0 u hu
        obtain ⟨u2, g4, g5, g6⟩ := y2 u1 g3 (mw u1 g3)
        exact ⟨u1, u2, g1, g4, g5.text (g2.fp.tr g6)⟩
    · subst z
      obtain ⟨hTb, ⟨pb, hkb⟩, hDb⟩ := id y1
      have hbb := hkb.b n4
      obtain ⟨ok, wc, c1, c2, c3, c4⟩ := j_textL ((n - wb 8 3).toNat + 1) 0 wb (by omega) y1 y3 y4 (by decide) (by omega)
      refine ⟨ok, wc, Cal.of (by decide +kernel) (Nat.le_of_ble_eq_true rfl) ?_, ((fr0.tr (a2.1.mono (by decide))).tr (b2.mono (by decide))).tr (c2.mono (by decide)), c3, ?_⟩
      · apply tX3_readText_0 w n (w1 := wa) (w2 := wb) (b := 1) (ok := 1) (by decide) (by decide) (by rw [e0]; exact a1) gw (fun _ => b1)
        · intro z; exact absurd z (by decide)
        · intro _ z; exact absurd z (by decide)
        · intro _ _; exact c1
      · rcases c4 with ⟨z, q, pl, z1, z2⟩ | ⟨z, z1, z2, z3, z4, z5⟩
        · refine Or.inl ⟨z, q, pl, z1, fun u hu => ?_⟩
          obtain ⟨u1, g1, g2, g3⟩ := M0 u hu
          obtain ⟨u2, g4, g5, g6⟩ := y5 u1 g3 (mw u1 g3)
          obtain ⟨u3, t1, t2, t3, t4⟩ := z2 u2 g5
          exact ⟨u1, u2, g1, g4, u3, t1, t2, t3, (g2.fp.tr g6).tr t4⟩
        · refine Or.inr ⟨z, z1, z2, z3, z4, fun u hu => ?_⟩
          obtain ⟨u1, g1, g2, g3⟩ := M0 u hu
          obtain ⟨u2, g4, g5, g6⟩ := y5 u1 g3 (mw u1 g3)
          obtain ⟨u3, t1, t2, t3, t4⟩ := z5 u2 g5
          exact ⟨u1, u2, u3, g1, g4, (g2.fp.tr g6).tr t1, t2, t3, t4⟩
  · rw [bI_0 cH] at gw
    refine ⟨0, _, Cal.of (by decide +kernel) (Nat.le_of_ble_eq_true rfl) ?_, ((fr0.tr (a2.1.mono (by decide))).put (i := 7) (v := 1) (by decide)).put (i := 8) (v := wa 8 5) (by decide), by decide, Or.inl ⟨rfl, 1, wa 8 5, FC.at wa 1, fun u hu => ?_⟩⟩
    · apply tX3_readText_0 w n (w1 := wa) (w2 := wa) (b := 0) (ok := 0) (by decide) (by decide) (by rw [e0]; exact a1) gw (fun z => absurd rfl z) <;> (intros; first | with_reducible exact ⟨rfl, rfl⟩ | contradiction | (exfalso; omega))
    · obtain ⟨u1, g1, g2, g3⟩ := M0 u hu
      have mw := y_isWord113 n4 a3 g3.2.1 g3.2.2.1
      rw [bI_0 cH] at mw
      have hf := FM.at g3 a3 1 (by decide)
      have ht := (g3.tkb a3).1
      exact ⟨u1, _, g1, Cal.of (by decide +kernel) (Nat.le_of_ble_eq_true rfl) (tX8_readHouseN_0 u1 g3.2.1 ht mw hf.line22), hf.text (g2.fp.tr (FrP.at _ _))⟩

