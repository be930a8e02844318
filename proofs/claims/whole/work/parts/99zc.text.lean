/-! the step of text -/
theorem m_text0 {T : Int → Int} {n : Int} (u : eW) (ht : 0 ≤ u 33 4 ∧ u 33 4 ≤ 400) (hnn : 0 ≤ n ∧ n ≤ u 33 4) (hT : ∀ j, 0 ≤ j → j < 400 → u 34 j = T j ∧ 0 ≤ T j ∧ T j ≤ 255) (hm : MO7 u) :
    ∃ u0, MS T n u0 ∧ Fr [33, 35, 36] u u0 ∧ (∀ i, i ≠ 0 → i ≠ 4 → i ≠ 5 → i ≠ 6 → i ≠ 7 → i ≠ 18 → i ≠ 19 → i ≠ 20 → u0 33 i = u 33 i) ∧ u0 33 4 = 0 ∧ ∀ u1 u2 r w9, Cal mX8_goOn [eR 33] u0 none u1 → Cal mX8_readHouse [eR 33] u1 none u2 → Go mX8_text 108 [(0, eR 33)] [] u2 r w9 → Go mX8_text 0 [(0, eR 33), (1, (0, n))] [] u r w9 := by
  generalize ez : eU (eU (eU (eU (eU u 33 0 0) 33 5 n) 33 4 0) 33 6 0) 33 7 0 = z
  have z33 : ∀ i, z 33 i = if i = 7 then 0 else if i = 6 then 0 else if i = 4 then 0 else if i = 5 then n else if i = 0 then 0 else u 33 i := fun i => by
    rw [← ez, eU_get, eU_get, eU_get, eU_get, eU_get]
  have zf : Fr [33, 35, 36] u z := by
    rw [← ez]
    exact ((((Fr.rf.put (by decide)).put (by decide)).put (by decide)).put (by decide)).put (by decide)
  have e33 : ∀ i, eU (eU (eU (eSet (eSet z 35 0 140 (fun _ => 0)) 36 0 4 (fun _ => 1)) 33 18 0) 33 19 0) 33 20 0 33 i = if i = 20 then 0 else if i = 19 then 0 else if i = 18 then 0 else z 33 i := fun i => by
    rw [eU_get, eU_get, eU_get, eSet_ne (by decide), eSet_ne (by decide)]
  have f0 : Fr [33, 35, 36] u (eU (eU (eU (eSet (eSet z 35 0 140 (fun _ => 0)) 36 0 4 (fun _ => 1)) 33 18 0) 33 19 0) 33 20 0) := by
    intro k hk
    have n33 : k ≠ 33 := fun q => hk (by rw [q]; decide)
    have n35 : k ≠ 35 := fun q => hk (by rw [q]; decide)
    have n36 : k ≠ 36 := fun q => hk (by rw [q]; decide)
    rw [eU_ne n33, eU_ne n33, eU_ne n33, eSet_ne n36, eSet_ne n35]
    exact zf k hk
  refine ⟨eU (eU (eU (eSet (eSet z 35 0 140 (fun _ => 0)) 36 0 4 (fun _ => 1)) 33 18 0) 33 19 0) 33 20 0, ⟨⟨by omega, ?_, ?_⟩, ?_, ?_, ?_, ?_, ?_, ?_, ?_, ?_⟩, f0, ?_, ?_, ?_⟩
  · rw [e33, if_neg (by decide), if_neg (by decide), if_neg (by decide), z33]; rfl
  · rw [f0 34 (by decide)]; exact hT
  · rw [e33, if_neg (by decide), if_neg (by decide), if_neg (by decide), z33]; rfl
  · rw [e33, if_neg (by decide), if_neg (by decide), if_neg (by decide), z33]; rfl
  · intro k k1 k2
    rw [eU_ne (by decide), eU_ne (by decide), eU_ne (by decide), eSet_ne (by decide), eSet_at, if_pos (by omega)]
  · intro k k1 k2
    rw [eU_ne (by decide), eU_ne (by decide), eU_ne (by decide), eSet_at, if_pos (by omega)]
  · unfold MO7
    rw [f0 37 (by decide)]
    exact hm
  · rw [e33]; rfl
  · rw [e33]; rfl
  · rw [e33]; rfl
  · intro i n0 n4 n5 n6 n7 n18 n19 n20
    rw [e33, if_neg n20, if_neg n19, if_neg n18, z33, if_neg n7, if_neg n6, if_neg n4, if_neg n5, if_neg n0]
  · rw [e33, if_neg (by decide), if_neg (by decide), if_neg (by decide), z33]; rfl
  · intro u1 u2 r w9 g1 g2 g3
    apply tX8_text_0 u n ⟨by omega, by omega⟩ ht
    · intro _
      rw [ez]
      refine loop_set (w := z) (o := 35) (a := 0) (N := 140) (g := fun _ => 0) (P := fun k w' => Go mX8_text 45 [(0, eR 33), (2, (0, k))] [] w' r w9) (by decide) ?_ ?_
      · apply tX8_text_45 _ 140 (by decide)
        · intro q; exact absurd q (by decide)
        · intro _
          refine loop_set (w := eSet z 35 0 140 (fun _ => 0)) (o := 36) (a := 0) (N := 4) (g := fun _ => 1) (P := fun k w' => Go mX8_text 67 [(0, eR 33), (2, (0, k))] [] w' r w9) (by decide) ?_ ?_
          · exact tX8_textG_67 _ g1 g2 g3
          · intro k k1 k2 ih
            rw [Int.zero_add] at ih
            exact tX8_text_67 _ k ⟨k1, k2⟩ ih
      · intro k k1 k2 ih
        rw [Int.zero_add] at ih
        apply tX8_text_45 _ k (by omega)
        · intro _; exact ih
        · intro q; exact absurd k2 q
    · intro q; exact absurd hnn q
def txF (z : eW) : eW := eU (eU (eU (eU (eSet (eSet (eSet z 38 0 140 (z 35)) 38 140 4 (z 36)) 40 0 16 (z 37)) 33 27 0) 33 28 1) 33 1 0) 33 2 (-1)
theorem m_text2 (z : eW) : Go mX8_text 215 [(0, eR 33), (2, (0, 0))] [] z (some (0, sumI (z 35) 0 140)) (txF z) := by
  have hc : sumI (eU (eU (eSet (eSet (eSet z 38 0 140 (z 35)) 38 140 4 (z 36)) 40 0 16 (z 37)) 33 27 0) 33 28 1 38) 0 140 = sumI (z 35) 0 140 := by
    refine sumI_congr (fun j j1 j2 => ?_)
    rw [eU_ne (by decide), eU_ne (by decide), eSet_ne (by decide), eSet_at, if_neg (by omega), eSet_at, if_pos (by omega)]
    rw [Int.sub_zero]
  have hmany : ∀ w' : eW, w' 38 = eSet (eSet (eSet z 38 0 140 (z 35)) 38 140 4 (z 36)) 40 0 16 (z 37) 38 → ∃ c, Cal mX8_many [eR 33] (eU (eU w' 33 27 0) 33 28 1) (some (0, c)) (eU (eU w' 33 27 0) 33 28 1) := fun w' _ => ⟨_, y_X8_many _⟩
  refine loop_set (w := z) (o := 38) (a := 0) (N := 140) (g := z 35) (P := fun k w' => Go mX8_text 215 [(0, eR 33), (2, (0, k))] [] w' (some (0, sumI (z 35) 0 140)) (txF z)) (by decide) ?_ ?_
  · apply tX8_text_215 _ 140 (by decide)
    · intro q; exact absurd q (by decide)
    · intro _
      refine loop_set (w := eSet z 38 0 140 (z 35)) (o := 38) (a := 140) (N := 4) (g := z 36) (P := fun k w' => Go mX8_text 242 [(0, eR 33), (2, (0, k))] [] w' (some (0, sumI (z 35) 0 140)) (txF z)) (by decide) ?_ ?_
      · apply tX8_text_242 _ 4 (by decide)
        · intro q; exact absurd q (by decide)
        · intro _
          refine loop_set (w := eSet (eSet z 38 0 140 (z 35)) 38 140 4 (z 36)) (o := 40) (a := 0) (N := 16) (g := z 37) (P := fun k w' => Go mX8_text 271 [(0, eR 33), (2, (0, k))] [] w' (some (0, sumI (z 35) 0 140)) (txF z)) (by decide) ?_ ?_
          · apply tX8_text_271 _ 16 (by decide) (y_X8_many _)
            · intro q; exact absurd q (by decide)
            · intro _
              exact ⟨by rw [hc], rfl⟩
          · intro k k1 k2 ih
            rw [Int.zero_add] at ih
            apply tX8_text_271 _ k (by omega) (y_X8_many _)
            · intro _
              rw [eSet_ne (by decide), eSet_ne (by decide), eSet_ne (by decide)]
              exact ih
            · intro q; exact absurd k2 q
      · intro k k1 k2 ih
        apply tX8_text_242 _ k (by omega)
        · intro _
          rw [eSet_ne (by decide), eSet_ne (by decide)]
          exact ih
        · intro q; exact absurd k2 q
  · intro k k1 k2 ih
    rw [Int.zero_add] at ih
    apply tX8_text_215 _ k (by omega)
    · intro _
      rw [eSet_ne (by decide)]
      exact ih
    · intro q; exact absurd k2 q
theorem cnt9_cell {w : eW} (h : 0 < cnt9 w) : ∃ x y, 0 ≤ x ∧ x < 14 ∧ 0 ≤ y ∧ y < w 9 1 ∧ bitv (w 10 y) x = 1 := by
  by_cases c : ∃ x y, 0 ≤ x ∧ x < 14 ∧ 0 ≤ y ∧ y < w 9 1 ∧ bitv (w 10 y) x = 1
  · exact c
  · exfalso
    have : cnt9 w = 0 := by
      unfold cnt9
      refine sumI_z (fun y y1 y2 => ?_)
      rw [popI_bI]
      exact sumI_z (fun x x1 x2 => bI_0 (fun q => c ⟨x, y, x1, x2, y1, y2, q.2.2⟩))
    omega
theorem s_text (n : Int) (hn : eI n) : ST 0 mX7_text mX8_text [(0, n)] := by
  intro w hI
  obtain ⟨hB, hM, hS, hO, ⟨hT, hQ⟩, hR, hP, hC⟩ := id hI
  obtain ⟨t1, t2, t3⟩ := id hT
  by_cases h : 0 ≤ n ∧ n ≤ w 0 1
  · generalize eT : (fun j => w 1 j % 256) = T
    have hTj : ∀ j, T j = w 1 j % 256 := fun j => by rw [← eT]
    have v1 : eU w 0 1 0 1 = w 1 := eU_ne (by decide)
    obtain ⟨ok, w1, g1, g2, g3, g4⟩ := j_text (T := T) (n := n) (eU w 0 1 0) (by omega) (fun j _ _ => by rw [v1, hTj])
    have f1 : Fr [0, 8, 9, 10, 11, 12] w w1 := (Fr.put (o := 0) Fr.rf (by decide)).tr (g2.mono (by decide))
    have e01 : ∀ i, w1 0 i = if i = 1 then 0 else w 0 i := fun i => by rw [g2 0 (by decide), eU_get]
    have MW : ∀ wc : eW, Fr [0, 2, 3, 4, 5, 6, 8, 9, 10, 11, 12, 13, 16, 24] w wc → ∃ u0, MS T n u0 ∧ Fr [33, 35, 36] wc u0 ∧ (∀ i, i ≠ 0 → i ≠ 4 → i ≠ 5 → i ≠ 6 → i ≠ 7 → i ≠ 18 → i ≠ 19 → i ≠ 20 → u0 33 i = w 33 i) ∧ u0 33 4 = 0 ∧ ∀ u1 u2 r w9, Cal mX8_goOn [eR 33] u0 none u1 → Cal mX8_readHouse [eR 33] u1 none u2 → Go mX8_text 108 [(0, eR 33)] [] u2 r w9 → Go mX8_text 0 [(0, eR 33), (1, (0, n))] [] wc r w9 := by
      intro wc fc
      have c33 : wc 33 = w 33 := fc 33 (by decide)
      have := m_text0 (T := T) (n := n) wc (by rw [c33]; omega) (by rw [c33]; omega) (fun j j1 j2 => by
        rw [fc 34 (by decide), hTj]
        have := (t3 j j1 j2).2
        exact ⟨this, by omega, by omega⟩) (by unfold MO7; rw [fc 37 (by decide)]; exact fun i i1 i2 => (hQ i i1 i2).1)
      rw [c33] at this
      exact this
    rcases g4 with ⟨z, q, pl, ⟨y1, y1'⟩, y2⟩ | ⟨z, y1, y2, y3, y4, y5⟩
    · subst z
      have fc : Fr [0, 2, 3, 4, 5, 6, 8, 9, 10, 11, 12, 13, 16, 24] w (eU (eU (eU w1 0 3 (w1 8 7)) 0 4 (w1 8 8)) 0 2 4) := (((f1.mono (by decide)).put (by decide)).put (by decide)).put (by decide)
      have fc' : Fr [0, 8, 9, 10, 11, 12] w (eU (eU (eU w1 0 3 (w1 8 7)) 0 4 (w1 8 8)) 0 2 4) := ((f1.put (by decide)).put (by decide)).put (by decide)
      have ec0 : ∀ i, eU (eU (eU w1 0 3 (w1 8 7)) 0 4 (w1 8 8)) 0 2 4 0 i = if i = 2 then 4 else if i = 4 then pl else if i = 3 then q else if i = 1 then 0 else w 0 i := fun i => by
        rw [eU_get, eU_get, eU_get, e01, y1, y1']
      obtain ⟨u0, m1, m2, m3, m4, m5⟩ := MW _ fc
      obtain ⟨u1, u2, n1, n2, u3, n3, n4, n5, n6⟩ := y2 u0 m1
      refine ⟨-1, _, _, Cal.of (by decide +kernel) (Nat.le_of_ble_eq_true rfl) ?_, Cal.of (by decide +kernel) (Nat.le_of_ble_eq_true rfl) (m5 u1 u2 _ _ n1 n2 n3), ?_⟩
      · apply tX7_text_0 w n (w1 := w1) (ok := 0) (c := 0) hn t2 (by decide) (fun _ => g1) (fun q => absurd rfl q) <;> (intros; first | with_reducible exact ⟨rfl, rfl⟩ | contradiction | (exfalso; omega))
      · generalize eU (eU (eU w1 0 3 (w1 8 7)) 0 4 (w1 8 8)) 0 2 4 = wc at *
        have F : Fr [0, 8, 9, 10, 11, 12, 33, 35, 36, 37] w (eU (eU u3 33 1 4) 33 2 pl) := ((((fc'.mono (by decide)).tr (m2.mono (by decide))).tr (n6.1.mono (by decide))).put (by decide)).put (by decide)
        have e33 : ∀ i, eU (eU u3 33 1 4) 33 2 pl 33 i = if i = 2 then pl else if i = 1 then 4 else u3 33 i := fun i => by rw [eU_get, eU_get]
        have w20 : eU (eU u3 33 1 4) 33 2 pl 0 = wc 0 := by rw [eU_ne (by decide), eU_ne (by decide), n6.1 0 (by decide), m2 0 (by decide)]
        refine IV_stay hI F (by decide) ?_ ?_ ?_ ?_
        · intro i i1 i2
          rw [e33, if_neg (by omega), if_neg (by omega), n6.2 i (by omega), m3 i (by omega) (by omega) (by omega) (by omega) (by omega) (by omega) (by omega) (by omega)]
        · refine ⟨?_, ?_, ?_⟩
          · rw [e33, if_neg (by decide), if_neg (by decide), n6.2 4 (by decide), m4, w20, ec0]; rfl
          · rw [w20, ec0]; exact (show (0 : Int) ≤ 0 ∧ (0 : Int) ≤ 400 by decide)
          · rw [F 1 (by decide), F 34 (by decide)]; exact t3
        · unfold MO
          rw [F 40 (by decide)]
          intro i i1 i2
          refine ⟨?_, (hQ i i1 i2).2⟩
          rw [eU_ne (by decide), eU_ne (by decide)]
          exact n5 i i1 i2
        · refine ⟨?_, ?_, ?_, ?_⟩
          · rw [e33, w20, ec0]; rfl
          · rw [w20, ec0]; exact (show (0 : Int) ≤ 4 ∧ (4 : Int) ≤ 5 by decide)
          · rw [e33, if_neg (by decide), if_neg (by decide), n4, w20, ec0]; rfl
          · rw [e33, if_pos rfl, w20, ec0, ec0]; rfl
    · subst z
      obtain ⟨⟨d1, d2, d3, d4, d5, d6⟩, ⟨d7, d8, d9⟩, d10, d11, d12, d13⟩ := id y1
      generalize ewc : wX7_forgetMeasures (eU (wX0_become (eU (eU w1 0 3 (w1 8 7)) 0 4 (w1 8 8))) 6 1 0) = wf
      have q2 : wf 2 0 = w1 9 0 ∧ wf 2 1 = w1 9 1 ∧ wf 2 2 = w1 9 2 := by
        rw [← ewc]; unfold wX7_forgetMeasures wX0_become eCpy
        simp [eU]
      have q3 : ∀ y, 0 ≤ y → y < 10 → wf 3 y = w1 10 y := fun y h1 h2 => by
        rw [← ewc]; unfold wX7_forgetMeasures wX0_become eCpy
        simp [eU, h1, h2]
      have q4 : ∀ y, 0 ≤ y → y < 4 → wf 4 y = w1 11 y := fun y h1 h2 => by
        rw [← ewc]; unfold wX7_forgetMeasures wX0_become eCpy
        simp [eU, h1, h2]
      have q5 : ∀ y, 0 ≤ y → y < 16 → wf 5 y = w1 12 y := fun y h1 h2 => by
        rw [← ewc]; unfold wX7_forgetMeasures wX0_become eCpy
        simp [eU, h1, h2]
      have q6 : wf 6 1 = 0 := by
        rw [← ewc]; unfold wX7_forgetMeasures wX0_become eCpy
        simp [eU]
      have q0 : ∀ i, wf 0 i = if i = 4 then w1 8 8 else if i = 3 then 0 else if i = 1 then 0 else w 0 i := fun i => by
        rw [← e01, ← d9, ← ewc]; unfold wX7_forgetMeasures wX0_become eCpy
        simp [eU]
      have qc : wf 13 4 = 0 ∧ wf 16 9 = 0 ∧ wf 16 10 = 0 ∧ wf 16 11 = 0 ∧ wf 24 9 = 0 := by
        rw [← ewc]; unfold wX7_forgetMeasures wX0_become eCpy
        simp [eU]
      have ff : Fr [0, 2, 3, 4, 5, 6, 8, 9, 10, 11, 12, 13, 16, 24] w wf := by
        intro k hk
        simp only [List.mem_cons, List.not_mem_nil, or_false, not_or] at hk
        obtain ⟨j0, j2, j3, j4, j5, j6, j8, j9, j10, j11, j12, j13, j16, j24⟩ := hk
        rw [← f1 k (by simp only [List.mem_cons, List.not_mem_nil, or_false, not_or]; exact ⟨j0, j8, j9, j10, j11, j12⟩), ← ewc]
        unfold wX7_forgetMeasures wX0_become eCpy
        simp [eU, j0, j2, j3, j4, j5, j6, j13, j16, j24]
      have hwf : HH wf := by
        refine ⟨⟨by rw [q2.1, q2.2.1, q2.2.2]; omega, fun i i1 i2 => by rw [q3 i i1 i2]; exact (d10 i i1 i2).1, fun i i1 i2 => by rw [q4 i i1 i2]; have := d11 i i1 i2; omega, fun i i1 i2 => by rw [q5 i i1 i2]; exact d12 i i1 i2⟩, fun i i1 i2 => by rw [q4 i i1 i2]; exact (d11 i i1 i2).1, fun y x y1 y2 x1 x2 => ?_⟩
        rw [q3 y y1 y2, q2.1, q2.2.1]
        exact (d10 y y1 y2).2 x x1 x2
      have cnt : cnt2 wf = cnt9 w1 := by
        unfold cnt2 cnt9
        rw [q2.2.1]
        exact sumI_congr (fun y y1 y2 => by rw [q3 y y1 (by omega)])
      have fc : Fr [0, 2, 3, 4, 5, 6, 8, 9, 10, 11, 12, 13, 16, 24] w (eU wf 0 2 0) := ff.put (by decide)
      obtain ⟨u0, m1, m2, m3, m4, m5⟩ := MW _ fc
      obtain ⟨u1, u2, u3, n1, n2, n3, n4, n5, n6⟩ := y5 u0 m1
      obtain ⟨r1, r2, r3, r4, r5, r6, r7, r8⟩ := id n5
      have r1 : u3 33 17 = w1 9 0 := r1.elim (fun q => by omega) id
      have hs : sumI (u3 35) 0 140 = cnt9 w1 := cnt9_same y1 n5
      generalize ez : eU (eU (eU u3 33 24 (u3 33 17)) 33 25 (u3 33 18)) 33 26 (u3 33 19) = z at n6
      have z33 : ∀ i, z 33 i = if i = 26 then w1 9 2 else if i = 25 then w1 9 1 else if i = 24 then w1 9 0 else u3 33 i := fun i => by rw [← ez, eU_get, eU_get, eU_get, r1, r2, r3]
      have zo : ∀ k : Nat, k ≠ 33 → z k = u3 k := fun k hk => by rw [← ez, eU_ne hk, eU_ne hk, eU_ne hk]
      have gm := n6 _ _ (m_text2 z)
      rw [zo 35 (by decide), hs] at gm
      refine ⟨cnt9 w1, eU wf 0 2 0, txF z, Cal.of (by decide +kernel) (Nat.le_of_ble_eq_true rfl) ?_, Cal.of (by decide +kernel) (Nat.le_of_ble_eq_true rfl) (m5 u1 u2 _ _ n1 n2 gm), ?_⟩
      · apply tX7_text_0 w n (w1 := w1) (ok := 1) (c := cnt9 w1) hn t2 (by decide) (fun _ => g1) (fun _ => by rw [ewc, ← cnt]; exact y_X0_countInside wf hwf.1)
        · intro q; exfalso; omega
        · intro _ q; exfalso; omega
        · intro _ _ q; exact absurd q (by decide)
        · intro _ _ _; rw [ewc]; exact ⟨rfl, rfl⟩
      · have o33 : ∀ i, txF z 33 i = if i = 2 then -1 else if i = 1 then 0 else if i = 28 then 1 else if i = 27 then 0 else z 33 i := fun i => by
          unfold txF
          rw [eU_get, eU_get, eU_get, eU_get, eSet_ne (by decide), eSet_ne (by decide), eSet_ne (by decide)]
        have oo : ∀ k : Nat, k ≠ 33 → k ≠ 38 → k ≠ 40 → txF z k = u3 k := fun k h1 h2 h3 => by
          unfold txF
          rw [eU_ne h1, eU_ne h1, eU_ne h1, eU_ne h1, eSet_ne h3, eSet_ne h2, eSet_ne h2, zo k h1]
        have o40 : ∀ i, 0 ≤ i → i < 16 → txF z 40 i = u3 37 i := fun i i1 i2 => by
          unfold txF
          rw [eU_ne (by decide), eU_ne (by decide), eU_ne (by decide), eU_ne (by decide), eSet_at, if_pos (by omega), Int.sub_zero, zo 37 (by decide)]
        have o38 : ∀ i, 0 ≤ i → i < 140 → txF z 38 i = u3 35 i := fun i i1 i2 => by
          unfold txF
          rw [eU_ne (by decide), eU_ne (by decide), eU_ne (by decide), eU_ne (by decide), eSet_ne (by decide), eSet_at, if_neg (by omega), eSet_at, if_pos (by omega), Int.sub_zero, zo 35 (by decide)]
        have o38' : ∀ s, 0 ≤ s → s < 4 → txF z 38 (140 + s) = u3 36 s := fun s s1 s2 => by
          unfold txF
          rw [eU_ne (by decide), eU_ne (by decide), eU_ne (by decide), eU_ne (by decide), eSet_ne (by decide), eSet_at, if_pos (by omega), zo 36 (by decide), show 140 + s - 140 = s by omega]
        have cl : ∀ k : Nat, k ≠ 0 → k ≤ 32 → txF z k = wf k := fun k h0 h1 => by
          rw [oo k (by omega) (by omega) (by omega), n3.1 k (by simp only [List.mem_cons, List.not_mem_nil, or_false, not_or]; omega), m2 k (by simp only [List.mem_cons, List.not_mem_nil, or_false, not_or]; omega), eU_ne h0]
        have cl0 : txF z 0 = eU wf 0 2 0 0 := by
          rw [oo 0 (by decide) (by decide) (by decide), n3.1 0 (by decide), m2 0 (by decide)]
        have c0 : ∀ i, txF z 0 i = if i = 2 then 0 else if i = 4 then w1 8 8 else if i = 3 then 0 else if i = 1 then 0 else w 0 i := fun i => by rw [cl0, eU_get, q0]
        have hF : Fr [0] wf (fun k => if k ≤ 32 then txF z k else wf k) := fun k hk => by
          dsimp only
          by_cases c : k ≤ 32
          · rw [if_pos c, cl k (fun q => hk (by rw [q]; decide)) c]
          · rw [if_neg c]
        have H2 : HH (txF z) := by
          unfold HH HB
          rw [cl 2 (by decide) (by decide), cl 3 (by decide) (by decide), cl 4 (by decide) (by decide), cl 5 (by decide) (by decide)]
          exact hwf
        have cells : ∀ x y, 0 ≤ x → x < 14 → 0 ≤ y → y < 10 → txF z 38 (14 * y + x) = bitv (txF z 3 y) x := fun x y x1 x2 y1 y2 => by
          rw [o38 _ (by omega) (by omega), r5 x y x1 x2 y1 y2, cl 3 (by decide) (by decide), q3 y y1 y2]
        have sp : ∀ s, 0 ≤ s → s < 4 → txF z 38 (140 + s) = txF z 4 s := fun s s1 s2 => by
          rw [o38' s s1 s2, r6 s s1 s2, cl 4 (by decide) (by decide), q4 s s1 s2]
        have e20 : txF z 2 = wf 2 := cl 2 (by decide) (by decide)
        have e24 : txF z 33 24 = w1 9 0 ∧ txF z 33 25 = w1 9 1 ∧ txF z 33 26 = w1 9 2 ∧ txF z 33 27 = 0 ∧ txF z 33 28 = 1 := by
          refine ⟨?_, ?_, ?_, ?_, ?_⟩ <;> rw [o33] <;> first | rfl | (rw [z33]; rfl) | skip
          all_goals (rw [if_neg (by decide), if_neg (by decide), if_neg (by decide), if_neg (by decide), z33]; rfl)
        refine ⟨H2.1, ?_, ⟨?_, ?_, ?_, ?_, cells, sp, ?_⟩, Or.inr ⟨e24.2.2.2.2, ?_, ?_, H2, ?_, ?_⟩, ⟨⟨?_, ?_, ?_⟩, ?_⟩, ⟨?_, ?_, ?_, ?_⟩, ⟨?_, ?_⟩, ⟨Or.inl ?_, Or.inl ?_, Or.inl ?_, Or.inl ?_, Or.inl ?_⟩⟩
        · refine ⟨by rw [e24.1, e24.2.1, e24.2.2.1, e24.2.2.2.1, e24.2.2.2.2]; omega, fun i i1 i2 => ?_, fun i i1 i2 => ?_, fun i i1 i2 => ?_⟩
          · have := cells (i % 14) (i / 14) (by omega) (by omega) (by omega) (by omega)
            rw [show 14 * (i / 14) + i % 14 = i by omega] at this
            rw [this]
            have := bitv_01 (txF z 3 (i / 14)) (i % 14)
            omega
          · have := sp (i - 140) (by omega) (by omega)
            rw [show 140 + (i - 140) = i by omega] at this
            rw [this]
            exact H2.1.2.2.1 _ (by omega) (by omega)
          · rw [o40 i i1 i2]
            have := r8 i i1 i2
            omega
        · rw [e24.1, e20, q2.1]
        · rw [e24.2.1, e20, q2.2.1]
        · rw [e24.2.2.1, e20, q2.2.2]
        · rw [e24.2.2.2.1, cl 6 (by decide) (by decide), q6]
        · rw [e20, q2.2.2, cl 5 (by decide) (by decide)]
          intro i i1 i2
          rw [o40 i i1 (by omega), r7 i i1 i2, q5 i i1 (by omega)]
        · rw [e20, q2.1]; exact y3
        · rw [e20, q2.2.1]; exact y2
        · intro k k1 k2
          rw [e20, q2.2.2] at k2
          rw [e20, q2.1, q2.2.1, cl 5 (by decide) (by decide), q5 _ (by omega) (by omega), q5 _ (by omega) (by omega)]
          exact d13 k k1 k2
        · obtain ⟨x, y, x1, x2, y1', y2', hb⟩ := cnt9_cell y4
          have hin := (d10 y y1' (by omega)).2 x x1 x2 hb
          refine ⟨x, y, x1, by rw [e20, q2.1]; exact hin.1, y1', by rw [e20, q2.2.1]; exact y2', ?_⟩
          rw [cl 3 (by decide) (by decide), q3 y y1' (by omega)]
          exact hb
        · rw [o33, if_neg (by decide), if_neg (by decide), if_neg (by decide), if_neg (by decide), z33, if_neg (by decide), if_neg (by decide), if_neg (by decide), n3.2 4 (by decide), m4, c0]; rfl
        · rw [c0]; exact (show (0 : Int) ≤ 0 ∧ (0 : Int) ≤ 400 by decide)
        · rw [cl 1 (by decide) (by decide), ff 1 (by decide), oo 34 (by decide) (by decide) (by decide), n3.1 34 (by decide), m2 34 (by decide), fc 34 (by decide)]
          exact t3
        · intro i i1 i2
          rw [oo 37 (by decide) (by decide) (by decide), o40 i i1 i2]
          exact ⟨r8 i i1 i2, (r8 i i1 i2).2.2⟩
        · rw [o33, c0]; rfl
        · rw [c0]; exact (show (0 : Int) ≤ 0 ∧ (0 : Int) ≤ 5 by decide)
        · rw [o33, if_neg (by decide), if_neg (by decide), if_neg (by decide), if_neg (by decide), z33, if_neg (by decide), if_neg (by decide), if_neg (by decide), n4, c0]; rfl
        · rw [o33, if_pos rfl, c0]; rfl
        · rw [cl 6 (by decide) (by decide), q6]; decide
        · intro k k1 k2
          rw [cl 6 (by decide) (by decide), q6] at k2
          omega
        · rw [cl 13 (by decide) (by decide)]; exact qc.1
        · rw [cl 16 (by decide) (by decide)]; exact qc.2.1
        · rw [cl 16 (by decide) (by decide)]; exact qc.2.2.1
        · rw [cl 16 (by decide) (by decide)]; exact qc.2.2.2.1
        · rw [cl 24 (by decide) (by decide)]; exact qc.2.2.2.2
  · have q := QC.of (w := w) (w1 := w) (v := 2) Fr.rf hC
    refine ⟨-1, eU w 0 2 2, eU (eU (eU (eU w 0 2 2) 33 0 0) 33 1 2) 33 2 (-1), Cal.of (by decide +kernel) (Nat.le_of_ble_eq_true rfl) ?_, Cal.of (by decide +kernel) (Nat.le_of_ble_eq_true rfl) ?_, IV_q hI q (QM.of (w1 := eU (eU w 0 2 2) 33 0 0) Fr.rf (fun _ _ _ => rfl)) (by decide)⟩
    · apply tX7_text_0 w n (w1 := w) (ok := 0) (c := 0) hn t2 (by decide) (fun z => absurd z h) (fun z => absurd rfl z) <;> (intros; first | with_reducible exact ⟨rfl, rfl⟩ | contradiction | (exfalso; omega))
    · have e4 : eU w 0 2 2 33 4 = w 0 1 := by rw [eU_ne (by decide), t1]
      apply tX8_text_0 _ n hn (by rw [e4]; omega) <;> (rw [e4]; intros; first | with_reducible exact ⟨rfl, rfl⟩ | contradiction | (exfalso; omega))
