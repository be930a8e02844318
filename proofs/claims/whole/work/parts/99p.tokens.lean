/-! tokens: both read the same -/
set_option maxHeartbeats 4000000 in
set_option maxRecDepth 20000 in
theorem tX8_isLetterAtE_0 {r : Option eV} {w9 : eW} (w : eW) (p : Int) (hp : eI p) (hn : 0 ≤ w 33 5 ∧ w 33 5 ≤ 400) (hq : w 33 5 ≤ p) (k1 : r = some (0, 0) ∧ w9 = w) : Go mX8_isLetterAt 0 [(0, eR 33), (1, (0, p))] [] w r w9 := by
  have a1 : ¬ (p < (w 33 5)) := by omega
  refine go_iload_n (eD DX8_isLetterAt 0 rfl) rfl rfl (go_aload_n (eD DX8_isLetterAt 1 rfl) rfl rfl (go_getI (kz := 5) (eD DX8_isLetterAt 2 rfl) fX8_113 (by decide) rfl rfl rfl (go_icmp_geT (tgt := 28) (eD DX8_isLetterAt 3 rfl) rfl (by omega) (show eI (w 33 5) from by omega) (Int.not_lt.mp a1) (?_))))
  rw [(k1).1, (k1).2]
  exact go_iconst (eD DX8_isLetterAt 14 rfl) (go_zret (eD DX8_isLetterAt 15 rfl) rfl (by decide))
set_option maxHeartbeats 4000000 in
set_option maxRecDepth 20000 in
theorem tX8_isDigitAtE_0 {r : Option eV} {w9 : eW} (w : eW) (p : Int) (hp : eI p) (hn : 0 ≤ w 33 5 ∧ w 33 5 ≤ 400) (hq : w 33 5 ≤ p) (k1 : r = some (0, 0) ∧ w9 = w) : Go mX8_isDigitAt 0 [(0, eR 33), (1, (0, p))] [] w r w9 := by
  have a1 : ¬ (p < (w 33 5)) := by omega
  refine go_iload_n (eD DX8_isDigitAt 0 rfl) rfl rfl (go_aload_n (eD DX8_isDigitAt 1 rfl) rfl rfl (go_getI (kz := 5) (eD DX8_isDigitAt 2 rfl) fX8_113 (by decide) rfl rfl rfl (go_icmp_geT (tgt := 28) (eD DX8_isDigitAt 3 rfl) rfl (by omega) (show eI (w 33 5) from by omega) (Int.not_lt.mp a1) (?_))))
  rw [(k1).1, (k1).2]
  exact go_iconst (eD DX8_isDigitAt 14 rfl) (go_zret (eD DX8_isDigitAt 15 rfl) rfl (by decide))
set_option maxHeartbeats 4000000 in
set_option maxRecDepth 20000 in
theorem tX8_goOnE_8 {r : Option eV} {w9 : eW} (w : eW) (hn : 0 ≤ w 33 5 ∧ w 33 5 ≤ 400) (hs : w 33 6 = w 33 5) (k1 : Go mX8_goOn 46 [(0, eR 33)] [] w r w9) : Go mX8_goOn 8 [(0, eR 33)] [] w r w9 := by
  have a1 : ¬ ((w 33 6) < (w 33 5)) := by omega
  refine go_aload_n (eD DX8_goOn 4 rfl) rfl rfl (go_getI (kz := 6) (eD DX8_goOn 5 rfl) fX8_120 (by decide) rfl rfl rfl (go_aload_n (eD DX8_goOn 6 rfl) rfl rfl (go_getI (kz := 5) (eD DX8_goOn 7 rfl) fX8_113 (by decide) rfl rfl rfl (go_icmp_geT (tgt := 46) (eD DX8_goOn 8 rfl) rfl (show eI (w 33 6) from by omega) (show eI (w 33 5) from by omega) (Int.not_lt.mp a1) (?_)))))
  exact Go.pick [0] rfl (k1)
abbrev ltr (c : Int) : Prop := 97 ≤ c ∧ c ≤ 122
abbrev dgt (c : Int) : Prop := 48 ≤ c ∧ c ≤ 57
def TpC (T : Int → Int) (n : Int) (w : eW) : Prop := (0 ≤ n ∧ n ≤ 400) ∧ w 8 2 = n ∧ ∀ j, 0 ≤ j → j < 400 → w 1 j % 256 = T j
def TpM (T : Int → Int) (n : Int) (u : eW) : Prop := (0 ≤ n ∧ n ≤ 400) ∧ u 33 5 = n ∧ ∀ j, 0 ≤ j → j < 400 → u 34 j = T j ∧ 0 ≤ T j ∧ T j ≤ 255
def TOK (T : Int → Int) (n p s e k : Int) : Prop := 0 ≤ p ∧ p ≤ s ∧ s ≤ n ∧ (∀ i, p ≤ i → i < s → T i = 32) ∧
  ((s = n ∧ e = n ∧ k = 0) ∨
   (s < e ∧ e ≤ n ∧ ¬ T s = 32 ∧
    ((ltr (T s) ∧ (∀ i, s ≤ i → i < e → ltr (T i)) ∧ (e = n ∨ ¬ ltr (T e)) ∧ k = (if 14 < e - s then -1 else 1)) ∨
     (dgt (T s) ∧ (∀ i, s ≤ i → i < e → dgt (T i)) ∧ (e = n ∨ ¬ dgt (T e)) ∧ k = (if 4 < e - s then -1 else 2)) ∨
     (¬ ltr (T s) ∧ ¬ dgt (T s) ∧ e = s + 1 ∧ k = (if T s = 59 ∨ T s = 44 ∨ T s = 47 then T s else -1)))))
/-- what advance may change -/
def AD (w w1 : eW) : Prop := Fr [8] w w1 ∧ ∀ i, i ≠ 3 → i ≠ 4 → i ≠ 5 → w1 8 i = w 8 i
theorem AD.put {w w1 : eW} {i v : Int} (h : AD w w1) (hi : i = 3 ∨ i = 4 ∨ i = 5) : AD w (eU w1 8 i v) := ⟨h.1.put (by decide), fun j a b c => by rw [eU_get, if_neg (by omega)]; exact h.2 j a b c⟩
theorem AD.tp {T : Int → Int} {n : Int} {w w1 : eW} (h : AD w w1) (ht : TpC T n w) : TpC T n w1 := ⟨ht.1, by rw [h.2 2 (by decide) (by decide) (by decide)]; exact ht.2.1, by rw [h.1 1 (by decide)]; exact ht.2.2⟩
theorem sg_in {T : Int → Int} {n : Int} {w : eW} (h : TpC T n w) {p : Int} (hp : 0 ≤ p ∧ p < n) : sgC w p = T p := by
  obtain ⟨h1, h2, h3⟩ := h
  unfold sgC
  rw [if_pos (by omega), h3 p hp.1 (by omega)]
theorem sg_out {T : Int → Int} {n : Int} {w : eW} (h : TpC T n w) {p : Int} (hp : n ≤ p) : sgC w p = -1 := by
  obtain ⟨h1, h2, h3⟩ := h
  unfold sgC
  rw [if_neg (by omega)]
theorem krF_b (c : Int) : -1 ≤ krF c ∧ krF c ≤ 2 := by
  unfold krF
  (repeat' split) <;> omega
theorem y_advance {T : Int → Int} {n : Int} (w : eW) (hT : TpC T n w) (hp : 0 ≤ w 8 3 ∧ w 8 3 ≤ n) : ∃ w1, Cal mX3_advance [eR 8] w none w1 ∧ AD w w1 ∧ TOK T n (w 8 3) (w1 8 5) (w1 8 3) (w1 8 4) := by
  obtain ⟨⟨n0, n4⟩, hn, hT3⟩ := id hT
  have sk : ∀ i : Int, 0 ≤ i → i ≤ 400 → ∀ w0, AD w w0 → w0 8 3 = w 8 3 → w0 8 5 = w 8 3 + i → w 8 3 + i ≤ n → (∀ j, w 8 3 ≤ j → j < w 8 3 + i → T j = 32) → ∃ s w1, AD w w1 ∧ w1 8 5 = s ∧ w 8 3 ≤ s ∧ s ≤ n ∧ (∀ j, w 8 3 ≤ j → j < s → T j = 32) ∧ (s = n ∨ ¬ T s = 32) ∧ ∀ r w9, Go mX3_advance 46 [(0, eR 8)] [] w1 r w9 → Go mX3_advance 10 [(0, eR 8), (1, (0, i))] [] w0 r w9 := by
    refine loop_up (P := fun i => ∀ w0, AD w w0 → w0 8 3 = w 8 3 → w0 8 5 = w 8 3 + i → w 8 3 + i ≤ n → (∀ j, w 8 3 ≤ j → j < w 8 3 + i → T j = 32) → ∃ s w1, AD w w1 ∧ w1 8 5 = s ∧ w 8 3 ≤ s ∧ s ≤ n ∧ (∀ j, w 8 3 ≤ j → j < s → T j = 32) ∧ (s = n ∨ ¬ T s = 32) ∧ ∀ r w9, Go mX3_advance 46 [(0, eR 8)] [] w1 r w9 → Go mX3_advance 10 [(0, eR 8), (1, (0, i))] [] w0 r w9) 0 400 ?_ ?_
    · intro w0 f0 e3 e5 hle hj
      refine ⟨w 8 3 + 400, w0, f0, e5, by omega, hle, hj, Or.inl (by omega), fun r w9 g => ?_⟩
      have hv := sgC_b w0 (w0 8 5)
      apply tX3_advance_10 w0 400 (v := sgC w0 (w0 8 5)) (by decide) hv (y_signAt w0 (w0 8 5) (by omega) (by rw [(f0.tp hT).2.1]; omega))
      · intro z; exfalso; omega
      · intro z; exfalso; omega
      · intro _; exact g
    · intro i i1 i2 ih w0 f0 e3 e5 hle hj
      have hv := sgC_b w0 (w0 8 5)
      have gs := y_signAt w0 (w0 8 5) (by omega) (by rw [(f0.tp hT).2.1]; omega)
      by_cases c : w 8 3 + i < n ∧ T (w 8 3 + i) = 32
      · have ev : sgC w0 (w0 8 5) = 32 := by rw [e5, sg_in (f0.tp hT) (by omega)]; exact c.2
        obtain ⟨s, w1, a1, a2, a3, a4, a5, a6, a7⟩ := ih (eU w0 8 5 (w0 8 5 + 1)) (f0.put (by decide)) (by rw [eU_get, if_neg (by decide)]; exact e3) (by rw [eU_get, if_pos rfl]; omega) (by omega) (fun j j1 j2 => by
          by_cases d : j = w 8 3 + i
          · rw [d]; exact c.2
          · exact hj j j1 (by omega))
        refine ⟨s, w1, a1, a2, a3, a4, a5, a6, fun r w9 g => ?_⟩
        apply tX3_advance_10 w0 i (v := sgC w0 (w0 8 5)) (by omega) hv gs
        · intro _ _; exact a7 r w9 g
        · intro _ z; exact absurd ev z
        · intro z; exfalso; omega
      · refine ⟨w 8 3 + i, w0, f0, e5, by omega, hle, hj, ?_, fun r w9 g => ?_⟩
        · by_cases d : w 8 3 + i = n
          · exact Or.inl d
          · exact Or.inr (fun z => c ⟨by omega, z⟩)
        · apply tX3_advance_10 w0 i (v := sgC w0 (w0 8 5)) (by omega) hv gs
          · intro _ z
            exfalso
            by_cases d : w 8 3 + i < n
            · rw [e5, sg_in (f0.tp hT) (by omega)] at z
              exact c ⟨d, z⟩
            · rw [e5, sg_out (f0.tp hT) (by omega)] at z
              omega
          · intro _ _; exact g
          · intro _; exact g
  obtain ⟨s, w1, a1, a2, a3, a4, a5, a6, a7⟩ := sk 0 (by decide) (by decide) (eU w 8 5 (w 8 3)) (AD.put ⟨Fr.rf, fun _ _ _ _ => rfl⟩ (by decide)) (by rw [eU_get, if_neg (by decide)]) (by rw [eU_get, if_pos rfl]; omega) (by omega) (fun j j1 j2 => by omega)
  have t1 := a1.tp hT
  have hv := sgC_b w1 (w1 8 5)
  have gs := y_signAt w1 (w1 8 5) (by omega) (by rw [t1.2.1]; omega)
  have gk := y_kindOfRun w1 (sgC w1 (w1 8 5)) (by omega)
  by_cases c : s = n
  · have ev : sgC w1 (w1 8 5) = -1 := by rw [a2, sg_out t1 (by omega)]
    rw [ev] at gs gk hv
    have ek : krF (-1) = -1 := rfl
    rw [ek] at gk
    have f2 : AD w (eU w1 8 3 (w1 8 5)) := a1.put (by decide)
    have hv2 := sgC_b (eU w1 8 3 (w1 8 5)) (eU w1 8 3 (w1 8 5) 8 3)
    have e83 : eU w1 8 3 (w1 8 5) 8 3 = s := by rw [eU_get, if_pos rfl]; exact a2
    have e85 : eU w1 8 3 (w1 8 5) 8 5 = s := by rw [eU_get, if_neg (by decide)]; exact a2
    have g2 := y_signAt (eU w1 8 3 (w1 8 5)) (eU w1 8 3 (w1 8 5) 8 3) (by omega) (by rw [(f2.tp hT).2.1]; omega)
    refine ⟨eU (eU w1 8 3 (w1 8 5)) 8 4 0, Cal.of (by decide +kernel) (Nat.le_of_ble_eq_true rfl) (tX3_advance_0 w (a7 _ _ ?_)), f2.put (by decide), ?_⟩
    · apply tX3_advance_46 w1 hv gs gk
      · intro _
        apply tX3_advance_83 (eU w1 8 3 (w1 8 5)) (-1) (-1) 0 (by decide) hv2 (by decide) (krF_b _) g2 (y_kindOfRun _ _ (by omega))
        · intro _ _
          apply tX3_advance_126 _ (-1) (-1) (by decide) (by decide) (by omega) <;> (intros; first | with_reducible exact ⟨rfl, rfl⟩ | contradiction | (exfalso; omega))
        · intro _ z; exact absurd rfl z
        · intro _ z; exact absurd rfl z
        · intro z; exfalso; omega
      · intro z; exfalso; omega
    · have e1 : eU (eU w1 8 3 (w1 8 5)) 8 4 0 8 5 = s := by rw [eU_get, if_neg (by decide)]; exact e85
      have e2 : eU (eU w1 8 3 (w1 8 5)) 8 4 0 8 3 = s := by rw [eU_get, if_neg (by decide)]; exact e83
      have e3 : eU (eU w1 8 3 (w1 8 5)) 8 4 0 8 4 = 0 := by rw [eU_get, if_pos rfl]
      rw [e1, e2, e3]
      exact ⟨hp.1, a3, a4, a5, Or.inl ⟨c, c, rfl⟩⟩
  · have hs : s < n := by omega
    have ht := a6.resolve_left c
    have hTb : 0 ≤ T s ∧ T s ≤ 255 := by rw [← hT3 s (by omega) (by omega)]; omega
    have ev : sgC w1 (w1 8 5) = T s := by rw [a2, sg_in t1 (by omega)]
    rw [ev] at gs gk hv
    have f2 : AD w (eU w1 8 3 (w1 8 5 + 1)) := a1.put (by decide)
    have e83 : eU w1 8 3 (w1 8 5 + 1) 8 3 = s + 1 := by rw [eU_get, if_pos rfl]; omega
    have e85 : eU w1 8 3 (w1 8 5 + 1) 8 5 = s := by rw [eU_get, if_neg (by decide)]; exact a2
    have hkb := krF_b (T s)
    by_cases cr : krF (T s) = -1
    · have hv2 := sgC_b (eU w1 8 3 (w1 8 5 + 1)) (eU w1 8 3 (w1 8 5 + 1) 8 3)
      have g2 := y_signAt (eU w1 8 3 (w1 8 5 + 1)) (eU w1 8 3 (w1 8 5 + 1) 8 3) (by omega) (by rw [(f2.tp hT).2.1]; omega)
      have nl : ¬ ltr (T s) ∧ ¬ dgt (T s) := by
        unfold krF at cr
        constructor
        · intro z; rw [if_pos z] at cr; exact absurd cr (by decide)
        · intro z
          by_cases q : 97 ≤ T s ∧ T s ≤ 122
          · rw [if_pos q] at cr; exact absurd cr (by decide)
          · rw [if_neg q, if_pos z] at cr; exact absurd cr (by decide)
      refine ⟨eU (eU w1 8 3 (w1 8 5 + 1)) 8 4 (if T s = 59 ∨ T s = 44 ∨ T s = 47 then T s else -1), Cal.of (by decide +kernel) (Nat.le_of_ble_eq_true rfl) (tX3_advance_0 w (a7 _ _ ?_)), f2.put (by decide), ?_⟩
      · apply tX3_advance_46 w1 hv gs gk
        · intro z; exfalso; omega
        · intro _
          apply tX3_advance_83 (eU w1 8 3 (w1 8 5 + 1)) (T s) (krF (T s)) 0 (by decide) hv2 hkb (krF_b _) g2 (y_kindOfRun _ _ (by omega))
          · intro _ _
            apply tX3_advance_126 _ (T s) (krF (T s)) (by omega) hkb (by omega)
            · intro z; exfalso; omega
            · intro _ z; rw [if_pos (Or.inl z)]; exact ⟨rfl, rfl⟩
            · intro _ _ z; rw [if_pos (Or.inr (Or.inl z))]; exact ⟨rfl, rfl⟩
            · intro _ _ _ z; rw [if_pos (Or.inr (Or.inr z))]; exact ⟨rfl, rfl⟩
            · intro _ _ _ _ z; exfalso; omega
            · intro _ _ _ _ z; exfalso; omega
            · intro _ _ _ _ _ z; exfalso; omega
            · intro _ z1 z2 z3 _ _; rw [if_neg (by omega), cr]; exact ⟨rfl, rfl⟩
          · intro _ z; exact absurd cr z
          · intro _ z; exact absurd cr z
          · intro z; exfalso; omega
      · rw [eU_get, if_neg (by decide), e85, eU_get, if_neg (by decide), e83, eU_get, if_pos rfl]
        exact ⟨hp.1, a3, a4, a5, Or.inr ⟨by omega, by omega, ht, Or.inr (Or.inr ⟨nl.1, nl.2, rfl, rfl⟩)⟩⟩
    · have rn : ∀ i : Int, 0 ≤ i → i ≤ 400 → ∀ w0, AD w w0 → w0 8 5 = s → w0 8 3 = s + 1 + i → s + 1 + i ≤ n → (∀ j, s ≤ j → j < s + 1 + i → krF (T j) = krF (T s)) → ∃ e w2, AD w w2 ∧ w2 8 5 = s ∧ w2 8 3 = e ∧ s < e ∧ e ≤ n ∧ (∀ j, s ≤ j → j < e → krF (T j) = krF (T s)) ∧ (e = n ∨ ¬ krF (T e) = krF (T s)) ∧ ∀ r w9, Go mX3_advance 126 [(0, eR 8), (1, (0, T s)), (2, (0, krF (T s)))] [] w2 r w9 → Go mX3_advance 83 [(0, eR 8), (1, (0, T s)), (2, (0, krF (T s))), (3, (0, i))] [] w0 r w9 := by
        refine loop_up (P := fun i => ∀ w0, AD w w0 → w0 8 5 = s → w0 8 3 = s + 1 + i → s + 1 + i ≤ n → (∀ j, s ≤ j → j < s + 1 + i → krF (T j) = krF (T s)) → ∃ e w2, AD w w2 ∧ w2 8 5 = s ∧ w2 8 3 = e ∧ s < e ∧ e ≤ n ∧ (∀ j, s ≤ j → j < e → krF (T j) = krF (T s)) ∧ (e = n ∨ ¬ krF (T e) = krF (T s)) ∧ ∀ r w9, Go mX3_advance 126 [(0, eR 8), (1, (0, T s)), (2, (0, krF (T s)))] [] w2 r w9 → Go mX3_advance 83 [(0, eR 8), (1, (0, T s)), (2, (0, krF (T s))), (3, (0, i))] [] w0 r w9) 0 400 ?_ ?_
        · intro w0 f0 e5 e3 hle; exfalso; omega
        · intro i i1 i2 ih w0 f0 e5 e3 hle hj
          have hv2 := sgC_b w0 (w0 8 3)
          have g1 := y_signAt w0 (w0 8 3) (by omega) (by rw [(f0.tp hT).2.1]; omega)
          have g2 := y_kindOfRun w0 (sgC w0 (w0 8 3)) (by omega)
          by_cases d : s + 1 + i < n ∧ krF (T (s + 1 + i)) = krF (T s)
          · have ev2 : sgC w0 (w0 8 3) = T (s + 1 + i) := by rw [e3, sg_in (f0.tp hT) (by omega)]
            obtain ⟨e, w2, q1, q2, q3, q4, q5, q6, q7, q8⟩ := ih (eU w0 8 3 (w0 8 3 + 1)) (f0.put (by decide)) (by rw [eU_get, if_neg (by decide)]; exact e5) (by rw [eU_get, if_pos rfl]; omega) (by omega) (fun j j1 j2 => by
              by_cases dj : j = s + 1 + i
              · rw [dj]; exact d.2
              · exact hj j j1 (by omega))
            refine ⟨e, w2, q1, q2, q3, q4, q5, q6, q7, fun r w9 g => ?_⟩
            apply tX3_advance_83 w0 (T s) (krF (T s)) i (by omega) hv2 hkb (krF_b _) g1 g2
            · intro _ z; exact absurd z cr
            · intro _ _ _; exact q8 r w9 g
            · intro _ _ z; rw [ev2] at z; exact absurd d.2 z
            · intro z; exfalso; omega
          · refine ⟨s + 1 + i, w0, f0, e5, e3, by omega, hle, hj, ?_, fun r w9 g => ?_⟩
            · by_cases dn : s + 1 + i = n
              · exact Or.inl dn
              · exact Or.inr (fun z => d ⟨by omega, z⟩)
            · apply tX3_advance_83 w0 (T s) (krF (T s)) i (by omega) hv2 hkb (krF_b _) g1 g2
              · intro _ _; exact g
              · intro _ _ z
                exfalso
                by_cases dn : s + 1 + i < n
                · rw [e3, sg_in (f0.tp hT) (by omega)] at z
                  exact d ⟨dn, z⟩
                · rw [e3, sg_out (f0.tp hT) (by omega)] at z
                  exact cr (z.symm.trans rfl)
              · intro _ _ _; exact g
              · intro _; exact g
      obtain ⟨e, w2, q1, q2, q3, q4, q5, q6, q7, q8⟩ := rn 0 (by decide) (by decide) (eU w1 8 3 (w1 8 5 + 1)) f2 e85 (by omega) (by omega) (fun j j1 j2 => by rw [show j = s by omega])
      have hk2 : krF (T s) = 1 ∨ krF (T s) = 2 := by
        unfold krF at cr ⊢
        (repeat' split) <;> first | exact Or.inl rfl | exact Or.inr rfl | (rename_i z1 z2; rw [if_neg z1, if_neg z2] at cr; exact absurd rfl cr)
      have kl : ∀ c, krF c = 1 ↔ ltr c := by
        intro c
        unfold krF ltr
        (repeat' split) <;> constructor <;> intro z <;> first | rfl | assumption | omega
      have kd : ∀ c, krF c = 2 ↔ dgt c := by
        intro c
        unfold krF dgt
        (repeat' split) <;> constructor <;> intro z <;> first | rfl | assumption | omega
      refine ⟨eU w2 8 4 (if (if krF (T s) = 1 then 14 else 4) < e - s then -1 else krF (T s)), Cal.of (by decide +kernel) (Nat.le_of_ble_eq_true rfl) (tX3_advance_0 w (a7 _ _ ?_)), q1.put (by decide), ?_⟩
      · apply tX3_advance_46 w1 hv gs gk
        · intro z; exfalso; omega
        · intro _
          refine q8 _ _ ?_
          have ns : ¬ T s = 59 ∧ ¬ T s = 44 ∧ ¬ T s = 47 := by
            rcases hk2 with z | z
            · have := (kl _).mp z; unfold ltr at this; omega
            · have := (kd _).mp z; unfold dgt at this; omega
          apply tX3_advance_126 w2 (T s) (krF (T s)) (by omega) hkb (by omega)
          · intro z; exfalso; omega
          · intro _ z; exact absurd z ns.1
          · intro _ _ z; exact absurd z ns.2.1
          · intro _ _ _ z; exact absurd z ns.2.2
          · intro _ _ _ _ z1 z2; rw [if_pos z1, if_pos (by omega)]; exact ⟨rfl, rfl⟩
          · intro _ _ _ _ z1 z2; rw [if_pos z1, if_neg (by omega)]; exact ⟨rfl, rfl⟩
          · intro _ _ _ _ z1 z2; rw [if_neg z1, if_pos (by omega)]; exact ⟨rfl, rfl⟩
          · intro _ _ _ _ z1 z2; rw [if_neg z1, if_neg (by omega)]; exact ⟨rfl, rfl⟩
      · rw [eU_get, if_neg (by decide), q2, eU_get, if_neg (by decide), q3, eU_get, if_pos rfl]
        refine ⟨hp.1, a3, a4, a5, Or.inr ⟨q4, q5, ht, ?_⟩⟩
        rcases hk2 with z | z
        · refine Or.inl ⟨(kl _).mp z, fun i i1 i2 => (kl _).mp ((q6 i i1 i2).trans z), q7.imp id (fun y q => y (((kl _).mpr q).trans z.symm)), ?_⟩
          rw [z, if_pos rfl]
        · refine Or.inr (Or.inl ⟨(kd _).mp z, fun i i1 i2 => (kd _).mp ((q6 i i1 i2).trans z), q7.imp id (fun y q => y (((kd _).mpr q).trans z.symm)), ?_⟩)
          rw [z, if_neg (show ¬ (2 : Int) = 1 by decide)]

