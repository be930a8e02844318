/-- the value of the first letters -/
def wdv (T : Int → Int) (s : Int) : Nat → Int
  | 0 => 0
  | j + 1 => if j < 10 then (((wdv T s j * 32) + T (s + j)) - 97) + 1 else wdv T s j
def nmv (T : Int → Int) (s : Int) : Nat → Int
  | 0 => 0
  | j + 1 => if j < 4 then ((10 * nmv T s j) + T (s + j)) - 48 else nmv T s j
def MD (u u1 : eW) : Prop := Fr [33] u u1 ∧ ∀ i, i ≠ 6 → i ≠ 9 → i ≠ 10 → i ≠ 11 → i ≠ 12 → i ≠ 13 → u1 33 i = u 33 i
theorem MD.put {w w1 : eW} {i v : Int} (h : MD w w1) (hi : i = 6 ∨ i = 9 ∨ i = 10 ∨ i = 11 ∨ i = 12 ∨ i = 13) : MD w (eU w1 33 i v) := ⟨h.1.put (by decide), fun j a b c d e f => by rw [eU_get, if_neg (by omega)]; exact h.2 j a b c d e f⟩
theorem MD.tp {T : Int → Int} {n : Int} {w w1 : eW} (h : MD w w1) (ht : TpM T n w) : TpM T n w1 := ⟨ht.1, by rw [h.2 5 (by decide) (by decide) (by decide) (by decide) (by decide) (by decide)]; exact ht.2.1, by rw [h.1 34 (by decide)]; exact ht.2.2⟩
def MTK (T : Int → Int) (s e k : Int) (u : eW) : Prop := u 33 10 = s ∧ u 33 6 = e ∧ ((k = 0 ∧ u 33 9 = 1) ∨ (k = 1 ∧ u 33 9 = 2 ∧ u 33 13 = wdv T s (e - s).toNat) ∨ (k = 2 ∧ u 33 9 = 3 ∧ u 33 12 = nmv T s (e - s).toNat) ∨ ((k = 59 ∨ k = 44 ∨ k = 47) ∧ u 33 9 = 4 ∧ u 33 11 = k) ∨ (k = -1 ∧ u 33 9 = 0))
theorem y_let1 {T : Int → Int} {n : Int} {u : eW} (h : TpM T n u) {p : Int} (hp : 0 ≤ p ∧ p < n) (hc : ltr (T p)) : Cal mX8_isLetterAt [eR 33, (0, p)] u (some (0, 1)) u := by
  obtain ⟨h1, h2, h3⟩ := h
  have q := h3 p hp.1 (by omega)
  have := y_b_X8_isLetterAt u p (by omega) (by omega) hp.1 (by omega)
  rw [if_pos (by rw [h2, q.1]; exact ⟨hp.2, hc⟩)] at this
  exact this
theorem y_let0 {T : Int → Int} {n : Int} {u : eW} (h : TpM T n u) {p : Int} (hp : 0 ≤ p ∧ p ≤ n) (hc : p = n ∨ ¬ ltr (T p)) : Cal mX8_isLetterAt [eR 33, (0, p)] u (some (0, 0)) u := by
  obtain ⟨h1, h2, h3⟩ := h
  by_cases c : p = n
  · refine Cal.of (by decide +kernel) (Nat.le_of_ble_eq_true rfl) ?_
    apply tX8_isLetterAtE_0 u p (by omega) (by omega) (by omega) <;> (intros; first | with_reducible exact ⟨rfl, rfl⟩ | contradiction | (exfalso; omega))
  · have q := h3 p hp.1 (by omega)
    have := y_b_X8_isLetterAt u p (by omega) (by omega) hp.1 (by omega)
    rw [if_neg (by rw [q.1]; exact fun z => hc.elim c (fun y => y z.2))] at this
    exact this
theorem y_dig1 {T : Int → Int} {n : Int} {u : eW} (h : TpM T n u) {p : Int} (hp : 0 ≤ p ∧ p < n) (hc : dgt (T p)) : Cal mX8_isDigitAt [eR 33, (0, p)] u (some (0, 1)) u := by
  obtain ⟨h1, h2, h3⟩ := h
  have q := h3 p hp.1 (by omega)
  have := y_b_X8_isDigitAt u p (by omega) (by omega) hp.1 (by omega)
  rw [if_pos (by rw [h2, q.1]; exact ⟨hp.2, hc⟩)] at this
  exact this
theorem y_dig0 {T : Int → Int} {n : Int} {u : eW} (h : TpM T n u) {p : Int} (hp : 0 ≤ p ∧ p ≤ n) (hc : p = n ∨ ¬ dgt (T p)) : Cal mX8_isDigitAt [eR 33, (0, p)] u (some (0, 0)) u := by
  obtain ⟨h1, h2, h3⟩ := h
  by_cases c : p = n
  · refine Cal.of (by decide +kernel) (Nat.le_of_ble_eq_true rfl) ?_
    apply tX8_isDigitAtE_0 u p (by omega) (by omega) (by omega) <;> (intros; first | with_reducible exact ⟨rfl, rfl⟩ | contradiction | (exfalso; omega))
  · have q := h3 p hp.1 (by omega)
    have := y_b_X8_isDigitAt u p (by omega) (by omega) hp.1 (by omega)
    rw [if_neg (by rw [q.1]; exact fun z => hc.elim c (fun y => y z.2))] at this
    exact this
theorem y_goOn {T : Int → Int} {n p s e k : Int} (u : eW) (hT : TpM T n u) (hf : u 33 7 = 0) (hp : u 33 6 = p) (hk : TOK T n p s e k) : ∃ u1, Cal mX8_goOn [eR 33] u none u1 ∧ MD u u1 ∧ MTK T s e k u1 := by
  obtain ⟨⟨n0, n4⟩, hn, hT3⟩ := id hT
  obtain ⟨k0, k1, k2, k3, k4⟩ := hk
  have sk : ∀ q : Int, p ≤ q → q ≤ s → ∀ u0, MD u u0 → u0 33 6 = q → ∃ u1, MD u u1 ∧ u1 33 6 = s ∧ ∀ r w9, Go mX8_goOn 46 [(0, eR 33)] [] u1 r w9 → Go mX8_goOn 8 [(0, eR 33)] [] u0 r w9 := by
    refine loop_up (P := fun q => ∀ u0, MD u u0 → u0 33 6 = q → ∃ u1, MD u u1 ∧ u1 33 6 = s ∧ ∀ r w9, Go mX8_goOn 46 [(0, eR 33)] [] u1 r w9 → Go mX8_goOn 8 [(0, eR 33)] [] u0 r w9) p s ?_ ?_
    · intro u0 f0 e6
      refine ⟨u0, f0, e6, fun r w9 g => ?_⟩
      have t0 := f0.tp hT
      by_cases c : s = n
      · apply tX8_goOnE_8 u0 (by rw [t0.2.1]; omega) (by rw [t0.2.1]; omega)
        exact g
      · have q := t0.2.2 s (by omega) (by omega)
        apply tX8_goOn_8 u0 (by rw [t0.2.1]; omega) (by rw [t0.2.1]; omega) (by rw [e6, q.1]; omega)
        · intro _ z
          rw [e6, q.1] at z
          exfalso
          rcases k4 with ⟨y, -⟩ | ⟨-, -, y, -⟩
          · exact c y
          · exact y z
        · intro _ _; exact g
        · intro _; exact g
    · intro q q1 q2 ih u0 f0 e6
      have t0 := f0.tp hT
      have qq := t0.2.2 q (by omega) (by omega)
      obtain ⟨u1, a1, a2, a3⟩ := ih (eU u0 33 6 (u0 33 6 + 1)) (f0.put (by decide)) (by rw [eU_get, if_pos rfl]; omega)
      refine ⟨u1, a1, a2, fun r w9 g => ?_⟩
      apply tX8_goOn_8 u0 (by rw [t0.2.1]; omega) (by rw [t0.2.1]; omega) (by rw [e6, qq.1]; omega)
      · intro _ _; exact a3 r w9 g
      · intro _ z; rw [e6, qq.1] at z; exact absurd (k3 q q1 q2) z
      · intro z; rw [t0.2.1] at z; exfalso; omega
  obtain ⟨u1, a1, a2, a3⟩ := sk p (by omega) k1 u ⟨Fr.rf, fun _ _ _ _ _ _ _ => rfl⟩ hp
  have t1 := a1.tp hT
  have start : ∀ {w9 : eW}, Go mX8_goOn 46 [(0, eR 33)] [] u1 none w9 → Cal mX8_goOn [eR 33] u none w9 := fun {w9} g => Cal.of (by decide +kernel) (Nat.le_of_ble_eq_true rfl) (tX8_goOn_0 u (by omega) (fun z => absurd z (by omega)) (fun _ => a3 _ _ g))
  have f2 : MD u (eU u1 33 10 (u1 33 6)) := a1.put (by decide)
  have t2 := f2.tp hT
  have e10 : eU u1 33 10 (u1 33 6) 33 10 = s := by rw [eU_get, if_pos rfl]; exact a2
  have e6 : eU u1 33 10 (u1 33 6) 33 6 = s := by rw [eU_get, if_neg (by decide)]; exact a2
  rcases k4 with ⟨c1, c2, c3⟩ | ⟨c1, c2, c3, c4⟩
  · refine ⟨eU (eU u1 33 10 (u1 33 6)) 33 9 1, start ?_, f2.put (by decide), ?_, ?_, Or.inl ⟨c3, ?_⟩⟩
    · apply tX8_goOnE_46 u1 (by rw [t1.2.1]; omega) (by rw [t1.2.1]; omega)
      exact ⟨rfl, rfl⟩
    · rw [eU_get, if_neg (by decide)]; exact e10
    · rw [eU_get, if_neg (by decide)]; omega
    · rw [eU_get, if_pos rfl]
  · have hb1 : 0 ≤ u1 33 5 ∧ u1 33 5 ≤ 400 := by rw [t1.2.1]; omega
    have hb2 : 0 ≤ u1 33 6 ∧ u1 33 6 < u1 33 5 := by rw [t1.2.1]; omega
    have qs := t1.2.2 s (by omega) (by omega)
    have hb3 : eI (u1 34 (u1 33 6)) := by rw [a2, qs.1]; omega
    rcases c4 with ⟨d1, d2, d3, d4⟩ | ⟨d1, d2, d3, d4⟩ | ⟨d1, d2, d3, d4⟩
    · have g1 := y_let1 t2 (p := s) (by omega) d1
      rw [← a2] at g1
      have lp : ∀ q : Int, s ≤ q → q ≤ e → ∀ u0, MD u u0 → u0 33 6 = q → u0 33 10 = s → u0 33 13 = wdv T s (q - s).toNat → ∃ u9, MD u u9 ∧ MTK T s e k u9 ∧ Go mX8_goOn 89 [(0, eR 33)] [] u0 none u9 := by
        refine loop_up (P := fun q => ∀ u0, MD u u0 → u0 33 6 = q → u0 33 10 = s → u0 33 13 = wdv T s (q - s).toNat → ∃ u9, MD u u9 ∧ MTK T s e k u9 ∧ Go mX8_goOn 89 [(0, eR 33)] [] u0 none u9) s e ?_ ?_
        · intro u0 f0 h6 h10 h13
          have t0 := f0.tp hT
          have g := y_let0 t0 (p := e) (by omega) d3
          rw [← h6] at g
          refine ⟨eU u0 33 9 (if 14 < e - s then 0 else 2), f0.put (by decide), ⟨by rw [eU_get, if_neg (by decide)]; exact h10, by rw [eU_get, if_neg (by decide)]; exact h6, ?_⟩, ?_⟩
          · rw [eU_get, if_pos rfl]
            by_cases z : 14 < e - s
            · rw [if_pos z] at d4 ⊢
              exact Or.inr (Or.inr (Or.inr (Or.inr ⟨d4, rfl⟩)))
            · rw [if_neg z] at d4 ⊢
              exact Or.inr (Or.inl ⟨d4, rfl, by rw [eU_get, if_neg (by decide)]; exact h13⟩)
          · apply tX8_goOnL0_89 u0 (by omega) (by omega) g
            · intro z; rw [if_pos (by omega)]; exact ⟨rfl, rfl⟩
            · intro z; rw [if_neg (by omega)]; exact ⟨rfl, rfl⟩
        · intro q q1 q2 ih u0 f0 h6 h10 h13
          have t0 := f0.tp hT
          have qq := t0.2.2 q (by omega) (by omega)
          have g := y_let1 t0 (p := q) (by omega) (d2 q q1 q2)
          rw [← h6] at g
          have ew : wdv T s (q + 1 - s).toNat = if (q - s).toNat < 10 then (((wdv T s (q - s).toNat * 32) + T q) - 97) + 1 else wdv T s (q - s).toNat := by
            rw [show (q + 1 - s).toNat = (q - s).toNat + 1 by omega, wdv, show s + ((q - s).toNat : Int) = q by omega]
          by_cases z : q - s < 10
          · rw [if_pos (by omega)] at ew
            obtain ⟨u9, b1, b2, b3⟩ := ih (eU (eU u0 33 13 ((((u0 33 13 * 32) + u0 34 (u0 33 6)) - 97) + 1)) 33 6 (u0 33 6 + 1)) ((f0.put (by decide)).put (by decide)) (by rw [eU_get, if_pos rfl]; omega) (by rw [eU_get, if_neg (by decide), eU_get, if_neg (by decide)]; exact h10) (by rw [eU_get, if_neg (by decide), eU_get, if_pos rfl, ew, h13, h6, qq.1])
            refine ⟨u9, b1, b2, ?_⟩
            apply tX8_goOnL1_89 u0 (by rw [t0.2.1]; omega) (by rw [t0.2.1]; omega) (by rw [h6, qq.1]; omega) (by omega) g
            · intro _; exact b3
            · intro y; exfalso; omega
          · rw [if_neg (by omega)] at ew
            obtain ⟨u9, b1, b2, b3⟩ := ih (eU u0 33 6 (u0 33 6 + 1)) (f0.put (by decide)) (by rw [eU_get, if_pos rfl]; omega) (by rw [eU_get, if_neg (by decide)]; exact h10) (by rw [eU_get, if_neg (by decide), ew, h13])
            refine ⟨u9, b1, b2, ?_⟩
            apply tX8_goOnL1_89 u0 (by rw [t0.2.1]; omega) (by rw [t0.2.1]; omega) (by rw [h6, qq.1]; omega) (by omega) g
            · intro y; exfalso; omega
            · intro _; exact b3
      obtain ⟨u9, b1, b2, b3⟩ := lp s (by omega) (by omega) (eU (eU u1 33 10 (u1 33 6)) 33 13 0) (f2.put (by decide)) (by rw [eU_get, if_neg (by decide)]; exact e6) (by rw [eU_get, if_neg (by decide)]; exact e10) (by rw [eU_get, if_pos rfl, Int.sub_self]; rfl)
      exact ⟨u9, start (tX8_goOnL_46 u1 hb1 hb2 hb3 g1 b3), b1, b2⟩
    · have nl : ¬ ltr (T s) := by unfold ltr; unfold dgt at d1; omega
      have g1 := y_let0 t2 (p := s) (by omega) (Or.inr nl)
      have g2 := y_dig1 t2 (p := s) (by omega) d1
      rw [← a2] at g1 g2
      have lp : ∀ q : Int, s ≤ q → q ≤ e → ∀ u0, MD u u0 → u0 33 6 = q → u0 33 10 = s → u0 33 12 = nmv T s (q - s).toNat → ∃ u9, MD u u9 ∧ MTK T s e k u9 ∧ Go mX8_goOn 198 [(0, eR 33)] [] u0 none u9 := by
        refine loop_up (P := fun q => ∀ u0, MD u u0 → u0 33 6 = q → u0 33 10 = s → u0 33 12 = nmv T s (q - s).toNat → ∃ u9, MD u u9 ∧ MTK T s e k u9 ∧ Go mX8_goOn 198 [(0, eR 33)] [] u0 none u9) s e ?_ ?_
        · intro u0 f0 h6 h10 h13
          have t0 := f0.tp hT
          have g := y_dig0 t0 (p := e) (by omega) d3
          rw [← h6] at g
          refine ⟨eU u0 33 9 (if 4 < e - s then 0 else 3), f0.put (by decide), ⟨by rw [eU_get, if_neg (by decide)]; exact h10, by rw [eU_get, if_neg (by decide)]; exact h6, ?_⟩, ?_⟩
          · rw [eU_get, if_pos rfl]
            by_cases z : 4 < e - s
            · rw [if_pos z] at d4 ⊢
              exact Or.inr (Or.inr (Or.inr (Or.inr ⟨d4, rfl⟩)))
            · rw [if_neg z] at d4 ⊢
              exact Or.inr (Or.inr (Or.inl ⟨d4, rfl, by rw [eU_get, if_neg (by decide)]; exact h13⟩))
          · apply tX8_goOnD0_198 u0 (by omega) (by omega) g
            · intro z; rw [if_pos (by omega)]; exact ⟨rfl, rfl⟩
            · intro z; rw [if_neg (by omega)]; exact ⟨rfl, rfl⟩
        · intro q q1 q2 ih u0 f0 h6 h10 h13
          have t0 := f0.tp hT
          have qq := t0.2.2 q (by omega) (by omega)
          have g := y_dig1 t0 (p := q) (by omega) (d2 q q1 q2)
          rw [← h6] at g
          have ew : nmv T s (q + 1 - s).toNat = if (q - s).toNat < 4 then ((10 * nmv T s (q - s).toNat) + T q) - 48 else nmv T s (q - s).toNat := by
            rw [show (q + 1 - s).toNat = (q - s).toNat + 1 by omega, nmv, show s + ((q - s).toNat : Int) = q by omega]
          by_cases z : q - s < 4
          · rw [if_pos (by omega)] at ew
            obtain ⟨u9, b1, b2, b3⟩ := ih (eU (eU u0 33 12 (((10 * u0 33 12) + u0 34 (u0 33 6)) - 48)) 33 6 (u0 33 6 + 1)) ((f0.put (by decide)).put (by decide)) (by rw [eU_get, if_pos rfl]; omega) (by rw [eU_get, if_neg (by decide), eU_get, if_neg (by decide)]; exact h10) (by rw [eU_get, if_neg (by decide), eU_get, if_pos rfl, ew, h13, h6, qq.1])
            refine ⟨u9, b1, b2, ?_⟩
            apply tX8_goOnD1_198 u0 (by rw [t0.2.1]; omega) (by rw [t0.2.1]; omega) (by rw [h6, qq.1]; omega) (by omega) g
            · intro _; exact b3
            · intro y; exfalso; omega
          · rw [if_neg (by omega)] at ew
            obtain ⟨u9, b1, b2, b3⟩ := ih (eU u0 33 6 (u0 33 6 + 1)) (f0.put (by decide)) (by rw [eU_get, if_pos rfl]; omega) (by rw [eU_get, if_neg (by decide)]; exact h10) (by rw [eU_get, if_neg (by decide), ew, h13])
            refine ⟨u9, b1, b2, ?_⟩
            apply tX8_goOnD1_198 u0 (by rw [t0.2.1]; omega) (by rw [t0.2.1]; omega) (by rw [h6, qq.1]; omega) (by omega) g
            · intro y; exfalso; omega
            · intro _; exact b3
      obtain ⟨u9, b1, b2, b3⟩ := lp s (by omega) (by omega) (eU (eU u1 33 10 (u1 33 6)) 33 12 0) (f2.put (by decide)) (by rw [eU_get, if_neg (by decide)]; exact e6) (by rw [eU_get, if_neg (by decide)]; exact e10) (by rw [eU_get, if_pos rfl, Int.sub_self]; rfl)
      exact ⟨u9, start (tX8_goOnD_46 u1 hb1 hb2 hb3 g1 g2 b3), b1, b2⟩
    · have g1 := y_let0 t2 (p := s) (by omega) (Or.inr d1)
      have g2 := y_dig0 t2 (p := s) (by omega) (Or.inr d2)
      rw [← a2] at g1 g2
      have ev : u1 34 (u1 33 6) = T s := by rw [a2]; exact qs.1
      refine ⟨eU (eU (eU (eU u1 33 10 (u1 33 6)) 33 11 (u1 34 (u1 33 6))) 33 9 (if T s = 59 ∨ T s = 44 ∨ T s = 47 then 4 else 0)) 33 6 (u1 33 6 + 1), start ?_, ((f2.put (by decide)).put (by decide)).put (by decide), ?_, ?_, ?_⟩
      · apply tX8_goOnS_46 u1 hb1 hb2 hb3 g1 g2
        · intro z; rw [ev] at z; rw [if_pos (Or.inl z)]; exact ⟨rfl, rfl⟩
        · intro _ z; rw [ev] at z; rw [if_pos (Or.inr (Or.inl z))]; exact ⟨rfl, rfl⟩
        · intro _ _ z; rw [ev] at z; rw [if_pos (Or.inr (Or.inr z))]; exact ⟨rfl, rfl⟩
        · intro z1 z2 z3; rw [ev] at z1 z2 z3; rw [if_neg (by omega)]; exact ⟨rfl, rfl⟩
      · rw [eU_get, if_neg (by decide), eU_get, if_neg (by decide), eU_get, if_neg (by decide)]; exact e10
      · rw [eU_get, if_pos rfl]; omega
      · have e9 : eU (eU (eU (eU u1 33 10 (u1 33 6)) 33 11 (u1 34 (u1 33 6))) 33 9 (if T s = 59 ∨ T s = 44 ∨ T s = 47 then 4 else 0)) 33 6 (u1 33 6 + 1) 33 9 = if T s = 59 ∨ T s = 44 ∨ T s = 47 then 4 else 0 := by rw [eU_get, if_neg (by decide), eU_get, if_pos rfl]
        have e11 : eU (eU (eU (eU u1 33 10 (u1 33 6)) 33 11 (u1 34 (u1 33 6))) 33 9 (if T s = 59 ∨ T s = 44 ∨ T s = 47 then 4 else 0)) 33 6 (u1 33 6 + 1) 33 11 = T s := by rw [eU_get, if_neg (by decide), eU_get, if_neg (by decide), eU_get, if_pos rfl]; exact ev
        rw [e9, e11]
        by_cases z : T s = 59 ∨ T s = 44 ∨ T s = 47
        · rw [if_pos z] at d4 ⊢
          exact Or.inr (Or.inr (Or.inr (Or.inl ⟨by rw [d4]; exact z, rfl, d4.symm⟩)))
        · rw [if_neg z] at d4 ⊢
          exact Or.inr (Or.inr (Or.inr (Or.inr ⟨d4, rfl⟩)))

