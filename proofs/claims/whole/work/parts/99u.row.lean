theorem DRF.ad {w w1 : eW} (h : DRF w) (a : AD w w1) : DRF w1 := by
  unfold DRF
  rw [a.1 9 (by decide), a.1 10 (by decide), a.1 11 (by decide), a.1 12 (by decide), a.2 6 (by decide) (by decide) (by decide), a.2 7 (by decide) (by decide) (by decide)]
  exact h
theorem DR.ad {w w1 u : eW} (h : DR w u) (a : AD w w1) : DR w1 u := by
  unfold DR
  rw [a.1 9 (by decide), a.1 10 (by decide), a.1 11 (by decide), a.1 12 (by decide), a.2 6 (by decide) (by decide) (by decide)]
  exact h
theorem DR.md {w u u1 : eW} (h : DR w u) (m : MD u u1) : DR w u1 := by
  unfold DR MO7
  rw [m.1 35 (by decide), m.1 36 (by decide), m.1 37 (by decide), m.2 17 (by decide) (by decide) (by decide) (by decide) (by decide) (by decide), m.2 18 (by decide) (by decide) (by decide) (by decide) (by decide) (by decide), m.2 19 (by decide) (by decide) (by decide) (by decide) (by decide) (by decide), m.2 20 (by decide) (by decide) (by decide) (by decide) (by decide) (by decide)]
  exact h
/-- both go on to the next token -/
theorem j_adv {T : Int → Int} {n : Int} (w : eW) (hT : TpC T n w) (hp : 0 ≤ w 8 3 ∧ w 8 3 ≤ n) : ∃ w1, Cal mX3_advance [eR 8] w none w1 ∧ AD w w1 ∧ TOK T n (w 8 3) (w1 8 5) (w1 8 3) (w1 8 4) ∧ ∀ u, TpM T n u → u 33 7 = 0 → u 33 6 = w 8 3 → DR w u → ∃ u1, Cal mX8_goOn [eR 33] u none u1 ∧ MD u u1 ∧ MR T n w1 u1 := by
  obtain ⟨w1, a1, a2, a3⟩ := y_advance w hT hp
  refine ⟨w1, a1, a2, a3, fun u h1 h2 h3 h4 => ?_⟩
  obtain ⟨u1, b1, b2, b3⟩ := y_goOn u h1 h2 h3 a3
  exact ⟨u1, b1, b2, b2.tp h1, (b2.2 7 (by decide) (by decide) (by decide) (by decide) (by decide) (by decide)).trans h2, b3, (h4.ad a2).md b2⟩
theorem j_row {T : Int → Int} {n p : Int} (w : eW) (hT : TpC T n w) (hk : TOK T n p (w 8 5) (w 8 3) (w 8 4)) (hD : DRF w) (hm0 : w 9 2 = 0) :
    ∃ ok w1, Cal mX3_readRow [eR 8] w (some (0, ok)) w1 ∧ Fr [8, 9, 10] w w1 ∧
      ((ok = 0 ∧ ∃ q, FC q (w 8 5) w1 ∧ ∀ u, MR T n w u → ∃ u1, Cal mX8_readRow [eR 33] u none u1 ∧ FM q (w 8 5) u1 ∧ FrP u u1) ∨
       (ok = 1 ∧ w 8 5 < w 8 3 ∧ w1 8 = w 8 ∧ DRF w1 ∧ w1 9 2 = 0 ∧ 1 ≤ w1 9 1 ∧ 1 ≤ w1 9 0 ∧ ∀ wa, AD w1 wa → TOK T n (w1 8 3) (wa 8 5) (wa 8 3) (wa 8 4) → ∀ u, MR T n w u → ∃ u1, Cal mX8_readRow [eR 33] u none u1 ∧ MR T n wa u1 ∧ FrP u u1)) := by
  obtain ⟨⟨n0, n4⟩, hn, hT3⟩ := id hT
  obtain ⟨⟨d1, d2, d3, d4, d5, d6⟩, d7, d8, d9, d10, d11⟩ := id hD
  have hb := hk.b n4
  have fail : ∀ q : Int, Fr [8, 9, 10] w (eU (eU w 8 7 q) 8 8 (w 8 5)) ∧ FC q (w 8 5) (eU (eU w 8 7 q) 8 8 (w 8 5)) := fun q => ⟨(Fr.rf.put (by decide)).put (by decide), by rw [eU_get, if_neg (by decide), eU_get, if_pos rfl], by rw [eU_get, if_pos rfl]⟩
  by_cases c1 : w 8 4 = 1
  · rw [c1] at hk
    obtain ⟨k1, k2, k3⟩ := hk.word
    -- the model up to 103
    have mod : ∀ u, MR T n w u → ∃ is', ((is' = 1 ∧ (w 9 1 = 0 ∨ w 8 3 - w 8 5 = w 9 0) ∧ ∀ j, 0 ≤ j → j < w 8 3 - w 8 5 → xo (T (w 8 5 + j))) ∨ (is' = 0 ∧ ¬ ((w 9 1 = 0 ∨ w 8 3 - w 8 5 = w 9 0) ∧ ∀ j, 0 ≤ j → j < w 8 3 - w 8 5 → xo (T (w 8 5 + j))))) ∧ ∀ w9, Go mX8_readRow 103 [(0, eR 33), (1, (0, w 8 3 - w 8 5)), (2, (0, is'))] [] u none w9 → Cal mX8_readRow [eR 33] u none w9 := by
      intro u hu
      obtain ⟨h1, h2, ⟨m1, m2, m3⟩, hr⟩ := id hu
      have h9 : u 33 9 = 2 := by
        rw [c1] at m3
        rcases m3 with ⟨z, -⟩ | ⟨-, z, -⟩ | ⟨z, -⟩ | ⟨z, -⟩ | ⟨z, -⟩
        · exact absurd z (by decide)
        · exact z
        · exact absurd z (by decide)
        · omega
        · exact absurd z (by decide)
      have sh : (∀ j, w 8 5 ≤ j → j < w 8 3 → xo (T j)) ↔ ∀ j, 0 ≤ j → j < w 8 3 - w 8 5 → xo (T (w 8 5 + j)) := by
        constructor
        · intro q j j1 j2; exact q _ (by omega) (by omega)
        · intro q j j1 j2
          have := q (j - w 8 5) (by omega) (by omega)
          rw [show w 8 5 + (j - w 8 5) = j by omega] at this
          exact this
      have ms := m_signs (nn := w 8 3 - w 8 5) h1 m1 m2 (by omega) (w 8 5) (by omega) (by omega)
      have e18 : u 33 18 = w 9 1 := hr.2.1
      by_cases c2 : w 9 1 = 0 ∨ w 8 3 - w 8 5 = w 9 0
      · obtain ⟨is', a1, a2⟩ := ms 1 (Or.inr rfl)
        refine ⟨is', ?_, fun w9 g => Cal.of (by decide +kernel) (Nat.le_of_ble_eq_true rfl) ?_⟩
        · rw [← sh]
          rcases a1 with ⟨b1, -, b2⟩ | ⟨b1, b2⟩
          · exact Or.inl ⟨b1, c2, b2⟩
          · exact Or.inr ⟨b1, fun z => b2 ⟨rfl, z.2⟩⟩
        · have g' := a2 _ _ g
          by_cases c3 : w 9 1 = 0
          · apply tX8_readRow1_0 u h2 h9 (by omega) (by omega)
            rw [m1, m2]; exact g'
          · have e17 : u 33 17 = w 9 0 := hr.1.resolve_left c3
            apply tX8_readRow2_0 u h2 h9 (by omega) (by omega) (by omega) (by omega)
            · intro _; rw [m1, m2]; exact g'
            · intro z; exfalso; rw [m1, m2, e17] at z; exact c2.elim c3 (fun y => z y)
      · obtain ⟨is', a1, a2⟩ := ms 0 (Or.inl rfl)
        refine ⟨is', ?_, fun w9 g => Cal.of (by decide +kernel) (Nat.le_of_ble_eq_true rfl) ?_⟩
        · rcases a1 with ⟨-, b1, -⟩ | ⟨b1, -⟩
          · exact absurd b1 (by decide)
          · exact Or.inr ⟨b1, fun z => c2 z.1⟩
        · have g' := a2 _ _ g
          have c3 : ¬ w 9 1 = 0 := fun z => c2 (Or.inl z)
          have e17 : u 33 17 = w 9 0 := hr.1.resolve_left c3
          apply tX8_readRow2_0 u h2 h9 (by omega) (by omega) (by omega) (by omega)
          · intro z; exfalso; rw [m1, m2, e17] at z; exact c2 (Or.inr z)
          · intro _; rw [m1, m2]; exact g'
    have bad : (¬ ((w 9 1 = 0 ∨ w 8 3 - w 8 5 = w 9 0) ∧ ∀ j, 0 ≤ j → j < w 8 3 - w 8 5 → xo (T (w 8 5 + j)))) → ∀ u, MR T n w u → ∃ u1, Cal mX8_readRow [eR 33] u none u1 ∧ FM 2 (w 8 5) u1 ∧ FrP u u1 := by
      intro hbad u hu
      obtain ⟨is', a1, a2⟩ := mod u hu
      have ei : is' = 0 := by
        rcases a1 with ⟨-, z⟩ | ⟨z, -⟩
        · exact absurd z hbad
        · exact z
      refine ⟨_, a2 _ ?_, FM.at hu (by rw [c1]; exact hk) 2 (by decide), FrP.at _ _⟩
      have e18 : u 33 18 = w 9 1 := hu.2.2.2.2.1
      apply tX8_readRow_103 u _ is' hu.2.1 (by omega) (by omega)
      · intro _ _; exact ⟨rfl, rfl⟩
      · intro _ _; exact ⟨rfl, rfl⟩
      · intro z; exact absurd ei z
      · intro z; exact absurd ei z
    by_cases c2 : w 9 1 = 0 ∨ w 8 3 - w 8 5 = w 9 0
    · rcases c_signs hT rfl (sz := w 8 3 - w 8 5) (by omega) (by omega) 0 (by omega) (by omega) 0 (RB_0 T (w 8 5)) with ⟨a1, b, a2, a3⟩ | ⟨a1, a2⟩
      · have cls : ∀ {r : Option eV} {w9 : eW}, Go mX3_readRow 115 [(0, eR 8), (1, (0, w 8 3 - w 8 5)), (2, (0, b))] [] w r w9 → Cal mX3_readRow [eR 8] w r w9 := fun {r w9} g => by
          refine Cal.of (by decide +kernel) (Nat.le_of_ble_eq_true rfl) ?_
          apply tX3_readRow_0 w (by omega) (by omega) (by omega)
          · intro _ _ _; exact a3 _ _ g
          · intro _ z1 z2; exfalso; omega
          · intro _ _; exact a3 _ _ g
          · intro z; exact absurd c1 z
        by_cases c3 : w 9 1 < 10
        · refine ⟨1, eU (eU (eU w 9 0 (w 8 3 - w 8 5)) 10 (w 9 1) b) 9 1 (w 9 1 + 1), cls ?_, ((Fr.rf.put (by decide)).put (by decide)).put (by decide), Or.inr ⟨rfl, k1, ?_, ?_, ?_, ?_, ?_, ?_⟩⟩
          · apply tX3_readRow_115 w _ b (by omega) <;> (intros; first | with_reducible exact ⟨rfl, rfl⟩ | contradiction | (exfalso; omega))
          · rw [eU_ne (by decide), eU_ne (by decide), eU_ne (by decide)]
          · have e90 : eU (eU (eU w 9 0 (w 8 3 - w 8 5)) 10 (w 9 1) b) 9 1 (w 9 1 + 1) 9 0 = w 8 3 - w 8 5 := by rw [eU_get, if_neg (by decide), eU_ne (by decide), eU_get, if_pos rfl]
            have e91 : eU (eU (eU w 9 0 (w 8 3 - w 8 5)) 10 (w 9 1) b) 9 1 (w 9 1 + 1) 9 1 = w 9 1 + 1 := by rw [eU_get, if_pos rfl]
            have e92 : eU (eU (eU w 9 0 (w 8 3 - w 8 5)) 10 (w 9 1) b) 9 1 (w 9 1 + 1) 9 2 = w 9 2 := by rw [eU_get, if_neg (by decide), eU_ne (by decide), eU_get, if_neg (by decide)]
            have e10 : ∀ y, eU (eU (eU w 9 0 (w 8 3 - w 8 5)) 10 (w 9 1) b) 9 1 (w 9 1 + 1) 10 y = if y = w 9 1 then b else w 10 y := fun y => by rw [eU_ne (by decide), eU_get, eU_ne (by decide)]
            refine ⟨?_, ?_, fun y y1 y2 => ?_, ?_, ?_, ?_⟩
            · rw [e90, e91, e92]; omega
            · rw [eU_ne (by decide), eU_ne (by decide), eU_ne (by decide)]; exact d7
            · rw [e10, e90, e91]
              by_cases cy : y = w 9 1
              · rw [if_pos cy]
                refine ⟨a2.1, fun x x1 x2 z => ?_⟩
                rw [a2.2 x x1 x2] at z
                by_cases q : x < w 8 3 - w 8 5 ∧ T (w 8 5 + x) = 120
                · omega
                · rw [if_neg q] at z; exact absurd z (by decide)
              · rw [if_neg cy]
                refine ⟨(d8 y y1 y2).1, fun x x1 x2 z => ?_⟩
                have := (d8 y y1 y2).2 x x1 x2 z
                omega
            · rw [eU_ne (by decide), eU_ne (by decide), eU_ne (by decide)]; exact d9
            · rw [eU_ne (by decide), eU_ne (by decide), eU_ne (by decide)]; exact d10
            · rw [e92]; intro k q1 q2; omega
          · rw [eU_get, if_neg (by decide), eU_ne (by decide), eU_get, if_neg (by decide)]; exact hm0
          · rw [eU_get, if_pos rfl]; omega
          · rw [eU_get, if_neg (by decide), eU_ne (by decide), eU_get, if_pos rfl]; omega
          · intro wa had htk u hu
            have e83 : eU (eU (eU w 9 0 (w 8 3 - w 8 5)) 10 (w 9 1) b) 9 1 (w 9 1 + 1) 8 3 = w 8 3 := by rw [eU_ne (by decide), eU_ne (by decide), eU_ne (by decide)]
            rw [e83] at htk
            obtain ⟨is', b1, b2⟩ := mod u hu
            have ei : is' = 1 := by
              rcases b1 with ⟨z, -⟩ | ⟨-, z⟩
              · exact z
              · exact absurd ⟨c2, a1⟩ z
            obtain ⟨h1, h2, ⟨m1, m2, m3⟩, hr⟩ := id hu
            have e18 : u 33 18 = w 9 1 := hr.2.1
            -- the model's row, laid
            have ek : ∀ x, eSet (eU u 33 17 (w 8 3 - w 8 5)) 35 (14 * w 9 1) x (fun i => if T (w 8 5 + i) = 120 then 1 else 0) 33 18 = w 9 1 := fun x => by rw [eSet_ne (by decide), eU_get, if_neg (by decide)]; exact e18
            have ek10 : ∀ x, eSet (eU u 33 17 (w 8 3 - w 8 5)) 35 (14 * w 9 1) x (fun i => if T (w 8 5 + i) = 120 then 1 else 0) 33 10 = w 8 5 := fun x => by rw [eSet_ne (by decide), eU_get, if_neg (by decide)]; exact m1
            have ek34 : ∀ x, eSet (eU u 33 17 (w 8 3 - w 8 5)) 35 (14 * w 9 1) x (fun i => if T (w 8 5 + i) = 120 then 1 else 0) 34 = u 34 := fun x => by rw [eSet_ne (by decide), eU_ne (by decide)]
            generalize eZ : eU (eSet (eU u 33 17 (w 8 3 - w 8 5)) 35 (14 * w 9 1) (w 8 3 - w 8 5) (fun i => if T (w 8 5 + i) = 120 then 1 else 0)) 33 18 (w 9 1 + 1) = uz
            have z33 : ∀ i, i ≠ 17 → i ≠ 18 → uz 33 i = u 33 i := fun i q1 q2 => by rw [← eZ, eU_get, if_neg q2, eSet_ne (by decide), eU_get, if_neg q1]
            have z17 : uz 33 17 = w 8 3 - w 8 5 := by rw [← eZ, eU_get, if_neg (by decide), eSet_ne (by decide), eU_get, if_pos rfl]
            have z18 : uz 33 18 = w 9 1 + 1 := by rw [← eZ, eU_get, if_pos rfl]
            have z34 : uz 34 = u 34 := by rw [← eZ, eU_ne (by decide), ek34]
            have z35 : ∀ j, uz 35 j = if 14 * w 9 1 ≤ j ∧ j < 14 * w 9 1 + (w 8 3 - w 8 5) then (if T (w 8 5 + (j - 14 * w 9 1)) = 120 then 1 else 0) else u 35 j := fun j => by rw [← eZ, eU_ne (by decide), eSet_at, eU_ne (by decide)]
            have z36 : uz 36 = u 36 := by rw [← eZ, eU_ne (by decide), eSet_ne (by decide), eU_ne (by decide)]
            have z37 : uz 37 = u 37 := by rw [← eZ, eU_ne (by decide), eSet_ne (by decide), eU_ne (by decide)]
            have zT : TpM T n uz := ⟨h1.1, by rw [z33 5 (by decide) (by decide)]; exact h1.2.1, by rw [z34]; exact h1.2.2⟩
            have zF : FrP u uz := by
              refine ⟨fun k hk => ?_, fun i hi => z33 i (by omega) (by omega)⟩
              have n33 : k ≠ 33 := fun q => hk (by rw [q]; decide)
              have n35 : k ≠ 35 := fun q => hk (by rw [q]; decide)
              rw [← eZ, eU_ne n33, eSet_ne n35, eU_ne n33]
            obtain ⟨u1, g1, g2, g3⟩ := y_goOn uz zT ((z33 7 (by decide) (by decide)).trans h2) ((z33 6 (by decide) (by decide)).trans m2) htk
            refine ⟨u1, b2 _ ?_, ⟨g2.tp zT, ?_, g3, ?_⟩, zF.tr g2.fp⟩
            · apply tX8_readRow_103 u _ is' h2 (by omega) (by omega)
              · intro z; exfalso; omega
              · intro z; exfalso; omega
              · intro _ z; exfalso; omega
              · intro _ _
                have key := loop_up (P := fun x => Go mX8_readRow 141 [(0, eR 33), (1, (0, w 8 3 - w 8 5)), (3, (0, x))] [] (eSet (eU u 33 17 (w 8 3 - w 8 5)) 35 (14 * w 9 1) x (fun i => if T (w 8 5 + i) = 120 then 1 else 0)) none u1) 0 (w 8 3 - w 8 5) ?_ ?_ 0 (by omega) (by omega)
                · rw [eSet_0] at key; exact key
                · apply tX8_readRowG_141 _ (w 8 3 - w 8 5) (w 8 3 - w 8 5) (w1 := u1) rfl (by omega) (by rw [ek, eZ]; exact g1)
                  exact ⟨rfl, rfl⟩
                · intro x x1 x2 ih
                  rw [← eSet_next x1] at ih
                  have qx := h1.2.2 (w 8 5 + x) (by omega) (by omega)
                  apply tX8_readRow_141 _ (w 8 3 - w 8 5) x (w1 := u1) (by omega) (by rw [ek]; omega) (by rw [ek10]; omega) (by rw [ek10, ek34, qx.1]; omega)
                  · intro z; rw [ek10, ek34, qx.1] at z; rw [ek]; rw [if_pos z] at ih; exact ih
                  · intro z; rw [ek10, ek34, qx.1] at z; rw [ek]; rw [if_neg z] at ih; exact ih
            · rw [g2.2 7 (by decide) (by decide) (by decide) (by decide) (by decide) (by decide), z33 7 (by decide) (by decide)]; exact h2
            · refine DR.md (DR.ad ?_ had) g2
              obtain ⟨r1, r2, r3, r4, r5, r6, r7, r8⟩ := hr
              refine ⟨Or.inr ?_, ?_, ?_, ?_, fun x y x1 x2 y1 y2 => ?_, ?_, ?_, ?_⟩
              · rw [z17, eU_get, if_neg (by decide), eU_ne (by decide), eU_get, if_pos rfl]
              · rw [z18, eU_get, if_pos rfl]
              · rw [z33 19 (by decide) (by decide), r3, eU_get, if_neg (by decide), eU_ne (by decide), eU_get, if_neg (by decide)]
              · rw [z33 20 (by decide) (by decide), r4, eU_ne (by decide), eU_ne (by decide), eU_ne (by decide)]
              · rw [z35, eU_ne (by decide), eU_get, eU_ne (by decide)]
                by_cases cy : y = w 9 1
                · rw [if_pos cy, a2.2 x x1 x2]
                  by_cases cx : x < w 8 3 - w 8 5
                  · rw [if_pos (by omega), show 14 * y + x - 14 * w 9 1 = x by omega]
                    by_cases q : T (w 8 5 + x) = 120
                    · rw [if_pos q, if_pos ⟨cx, q⟩]
                    · rw [if_neg q, if_neg (fun z => q z.2)]
                  · rw [if_neg (by omega), if_neg (fun z => cx z.1), r5 x y x1 x2 y1 y2]
                    rcases bitv_01 (w 10 y) x with q | q
                    · exact q
                    · have := (d8 y y1 y2).2 x x1 x2 q; omega
                · rw [if_neg cy, if_neg (by omega)]; exact r5 x y x1 x2 y1 y2
              · rw [z36, eU_ne (by decide), eU_ne (by decide), eU_ne (by decide)]; exact r6
              · have e92 : eU (eU (eU w 9 0 (w 8 3 - w 8 5)) 10 (w 9 1) b) 9 1 (w 9 1 + 1) 9 2 = w 9 2 := by rw [eU_get, if_neg (by decide), eU_ne (by decide), eU_get, if_neg (by decide)]
                rw [e92, z37, eU_ne (show 12 ≠ 9 by decide), eU_ne (show 12 ≠ 10 by decide), eU_ne (show 12 ≠ 9 by decide)]; exact r7
              · unfold MO7; rw [z37]; exact r8
        · refine ⟨0, eU (eU w 8 7 4) 8 8 (w 8 5), cls ?_, (fail 4).1, Or.inl ⟨rfl, 4, (fail 4).2, fun u hu => ?_⟩⟩
          · apply tX3_readRow_115 w _ b (by omega) <;> (intros; first | with_reducible exact ⟨rfl, rfl⟩ | contradiction | (exfalso; omega))
          · obtain ⟨is', b1, b2⟩ := mod u hu
            have ei : is' = 1 := by
              rcases b1 with ⟨z, -⟩ | ⟨-, z⟩
              · exact z
              · exact absurd ⟨c2, a1⟩ z
            refine ⟨_, b2 _ ?_, FM.at hu (by rw [c1]; exact hk) 4 (by decide), FrP.at _ _⟩
            have e18 : u 33 18 = w 9 1 := hu.2.2.2.2.1
            apply tX8_readRow_103 u _ is' hu.2.1 (by omega) (by omega) <;> (intros; first | with_reducible exact ⟨rfl, rfl⟩ | contradiction | (exfalso; omega))
      · refine ⟨0, eU (eU w 8 7 2) 8 8 (w 8 5), Cal.of (by decide +kernel) (Nat.le_of_ble_eq_true rfl) ?_, (fail 2).1, Or.inl ⟨rfl, 2, (fail 2).2, bad (fun z => a1 z.2)⟩⟩
        apply tX3_readRow_0 w (by omega) (by omega) (by omega)
        · intro _ _ _; exact a2
        · intro _ z1 z2; exfalso; omega
        · intro _ _; exact a2
        · intro z; exact absurd c1 z
    · refine ⟨0, eU (eU w 8 7 2) 8 8 (w 8 5), Cal.of (by decide +kernel) (Nat.le_of_ble_eq_true rfl) ?_, (fail 2).1, Or.inl ⟨rfl, 2, (fail 2).2, bad (fun z => c2 z.1)⟩⟩
      apply tX3_readRow_0 w (by omega) (by omega) (by omega) <;> (intros; first | with_reducible exact ⟨rfl, rfl⟩ | contradiction | (exfalso; omega))
  · refine ⟨0, eU (eU w 8 7 1) 8 8 (w 8 5), Cal.of (by decide +kernel) (Nat.le_of_ble_eq_true rfl) ?_, (fail 1).1, Or.inl ⟨rfl, 1, (fail 1).2, fun u hu => ⟨_, Cal.of (by decide +kernel) (Nat.le_of_ble_eq_true rfl) ?_, FM.at hu hk 1 (by decide), FrP.at _ _⟩⟩⟩
    · apply tX3_readRow_0 w (by omega) (by omega) (by omega) <;> (intros; first | with_reducible exact ⟨rfl, rfl⟩ | contradiction | (exfalso; omega))
    · obtain ⟨h1, h2, ⟨m1, m2, m3⟩, hr⟩ := id hu
      have ht : ¬ u 33 9 = 2 ∧ eI (u 33 9) := by
        rcases m3 with ⟨-, q⟩ | ⟨z, -⟩ | ⟨-, q, -⟩ | ⟨-, q, -⟩ | ⟨-, q⟩
        · omega
        · exact absurd z c1
        · omega
        · omega
        · omega
      apply tX8_readRowN_0 u h2 ht.1 ht.2
      exact ⟨rfl, rfl⟩

