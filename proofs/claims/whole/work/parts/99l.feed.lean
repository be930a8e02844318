theorem CA_fr2 {S : List Nat} {w w1 : eW} (h : Fr S w w1) (n : ∀ k ∈ [2, 3, 4, 13, 14, 15, 16, 17, 18, 19, 20, 21, 22, 23, 24, 30], k ∉ S) (hC : CA w) : CA w1 := by
  obtain ⟨c1, c2, c3, c4, c5⟩ := hC
  have e13 := h.at 13 (n 13 (by decide)) 4
  have e9 := h.at 16 (n 16 (by decide)) 9
  have e10 := h.at 16 (n 16 (by decide)) 10
  have e11 := h.at 16 (n 16 (by decide)) 11
  have e24 := h.at 24 (n 24 (by decide)) 9
  have k1 : RC w (wallsOf w) → RC w1 (wallsOf w1) := RC_keep h ⟨n 2 (by decide), n 3 (by decide), n 13 (by decide), n 14 (by decide), n 15 (by decide)⟩
  have k2 : RMs w → RMs w1 := RMs_fr h ⟨n 2 (by decide), n 3 (by decide), n 4 (by decide), n 17 (by decide), n 18 (by decide), n 19 (by decide), n 21 (by decide)⟩ e9 e10
  refine ⟨?_, ?_, ?_, ?_, ?_⟩
  · rw [e13]; exact c1.imp id k1
  · rw [e9]; exact c2.imp id (RY_fr h ⟨n 2 (by decide), n 3 (by decide), n 4 (by decide), n 17 (by decide), n 18 (by decide)⟩ e9)
  · rw [e10]; exact c3.imp id k2
  · rw [e11]; exact c4.imp id (fun q => ⟨RCt_fr h ⟨n 2 (by decide), n 3 (by decide), n 4 (by decide), n 22 (by decide), n 23 (by decide)⟩ e11 q.1, k1 q.2.1, k2 q.2.2⟩)
  · rw [e24]; exact c5.imp id (RE_fr h ⟨n 2 (by decide), n 3 (by decide), n 4 (by decide), n 24 (by decide), n 30 (by decide)⟩)
/-- the house, its past and what is kept ready stay as they were -/
theorem IV_stay {S : List Nat} {w w2 : eW} (hI : IV w) (f : Fr S w w2) (n : ∀ k ∈ [2, 3, 4, 5, 6, 7, 13, 14, 15, 16, 17, 18, 19, 20, 21, 22, 23, 24, 30, 38, 39, 40], k ∉ S) (f33 : ∀ i, 24 ≤ i → i ≤ 28 → w2 33 i = w 33 i) (hT : TP w2) (hQ : MO w2) (hR : TR w2) : IV w2 := by
  obtain ⟨i1, i2, i3, i4, i5, i6, i7, i8⟩ := hI
  have a2 : w2 2 = w 2 := f 2 (n 2 (by decide))
  have a5 : w2 5 = w 5 := f 5 (n 5 (by decide))
  have a6 : w2 6 = w 6 := f 6 (n 6 (by decide))
  have s4 : 2 ∉ S ∧ 3 ∉ S ∧ 4 ∉ S ∧ 5 ∉ S := ⟨n 2 (by decide), n 3 (by decide), n 4 (by decide), n 5 (by decide)⟩
  refine ⟨HB_fr f i1 s4, ?_, i3.fr f ⟨n 2 (by decide), n 3 (by decide), n 4 (by decide), n 5 (by decide), n 6 (by decide), n 38 (by decide), n 40 (by decide)⟩ f33, ?_, ⟨hT, hQ⟩, hR, ?_, CA_fr2 f (fun k hk => n k ((show ∀ k ∈ [2, 3, 4, 13, 14, 15, 16, 17, 18, 19, 20, 21, 22, 23, 24, 30], k ∈ [2, 3, 4, 5, 6, 7, 13, 14, 15, 16, 17, 18, 19, 20, 21, 22, 23, 24, 30, 38, 39, 40] by decide) k hk)) i8⟩
  · unfold MB
    rw [f33 24 (by decide) (by decide), f33 25 (by decide) (by decide), f33 26 (by decide) (by decide), f33 27 (by decide) (by decide), f33 28 (by decide) (by decide), f 38 (n 38 (by decide)), f 40 (n 40 (by decide))]
    exact i2
  · unfold HO
    rw [f33 28 (by decide) (by decide), a2, a6]
    refine i4.imp id (fun ⟨b1, b2, b3, b4, b5, x, y, b6⟩ => ⟨b1, b2, b3, HH_fr f b4 s4, ?_, x, y, by rw [insC_fr f ⟨n 2 (by decide), n 3 (by decide)⟩]; exact b6⟩)
    intro k k1 k2
    rw [a2] at k2 ⊢
    rw [a5]
    exact b5 k k1 k2
  · unfold PS
    rw [a6, a2, f 7 (n 7 (by decide)), f 39 (n 39 (by decide))]
    exact i7
def fdV (a b c d e k : Int) : Int := if k < 4 then a else if k < 8 then b else if k < 12 then c else if k < 16 then d else e
theorem s_feed (a b c d e : Int) (ea : eI a) (eb : eI b) (ec : eI c) (ed : eI d) (ee : eI e) : ST 0 mX7_feed mX8_feed [(0, a), (0, b), (0, c), (0, d), (0, e)] := by
  intro w hI
  obtain ⟨hB, hM, hS, hO, ⟨hT, hQ⟩, hR, hP, hC⟩ := id hI
  obtain ⟨t1, t2, t3⟩ := id hT
  have q1 := fun n i => pB_0 w n i
  by_cases h : 400 < w 0 1 + 20
  · refine ⟨-1, w, eU w 33 0 0, Cal.of (by decide +kernel) (Nat.le_of_ble_eq_true rfl) ?_, Cal.of (by decide +kernel) (Nat.le_of_ble_eq_true rfl) ?_, IV_0 hI⟩
    · apply tX7_feed_0 w a b c d e (w1 := w) (w2 := w) (w3 := w) (w4 := w) (w5 := w) t2 <;> (intros; first | with_reducible exact ⟨rfl, rfl⟩ | contradiction | (exfalso; omega))
    · apply tX8_feed_0 w a b c d e (by omega) <;> (intros; first | with_reducible exact ⟨rfl, rfl⟩ | contradiction | (exfalso; omega))
  · have l1 : wX7_putBytes w a 0 1 = w 0 1 + 4 := by rw [pB_0, if_pos rfl]
    have l2 : wX7_putBytes (wX7_putBytes w a) b 0 1 = w 0 1 + 8 := by rw [pB_0, if_pos rfl, l1]; omega
    have l3 : wX7_putBytes (wX7_putBytes (wX7_putBytes w a) b) c 0 1 = w 0 1 + 12 := by rw [pB_0, if_pos rfl, l2]; omega
    have l4 : wX7_putBytes (wX7_putBytes (wX7_putBytes (wX7_putBytes w a) b) c) d 0 1 = w 0 1 + 16 := by rw [pB_0, if_pos rfl, l3]; omega
    have l5 : wX7_putBytes (wX7_putBytes (wX7_putBytes (wX7_putBytes (wX7_putBytes w a) b) c) d) e 0 1 = w 0 1 + 20 := by rw [pB_0, if_pos rfl, l4]; omega
    have f : Fr [0, 1] w (wX7_putBytes (wX7_putBytes (wX7_putBytes (wX7_putBytes (wX7_putBytes w a) b) c) d) e) := ((((pB_fr w a).tr (pB_fr _ b)).tr (pB_fr _ c)).tr (pB_fr _ d)).tr (pB_fr _ e)
    have e0 : ∀ i, i ≠ 1 → wX7_putBytes (wX7_putBytes (wX7_putBytes (wX7_putBytes (wX7_putBytes w a) b) c) d) e 0 i = w 0 i := fun i hi => by
      rw [pB_0, if_neg hi, pB_0, if_neg hi, pB_0, if_neg hi, pB_0, if_neg hi, pB_0, if_neg hi]
    have e1 : ∀ j, wX7_putBytes (wX7_putBytes (wX7_putBytes (wX7_putBytes (wX7_putBytes w a) b) c) d) e 1 j = if w 0 1 ≤ j ∧ j < w 0 1 + 20 then eByte (fdV a b c d e (j - w 0 1) / 2 ^ (24 - 8 * ((j - w 0 1) % 4)).toNat) else w 1 j := fun j => by
      rw [pB_1, l4, pB_1, l3, pB_1, l2, pB_1, l1, pB_1]
      unfold fdV
      by_cases c0 : w 0 1 ≤ j ∧ j < w 0 1 + 20
      · rw [if_pos c0]
        by_cases c4 : w 0 1 + 16 ≤ j
        · rw [if_pos (by omega), if_neg (by omega), if_neg (by omega), if_neg (by omega), if_neg (by omega), show 24 - 8 * (j - (w 0 1 + 16)) = 24 - 8 * ((j - w 0 1) % 4) by omega]
        · rw [if_neg (by omega)]
          by_cases c3 : w 0 1 + 12 ≤ j
          · rw [if_pos (by omega), if_neg (by omega), if_neg (by omega), if_neg (by omega), if_pos (by omega), show 24 - 8 * (j - (w 0 1 + 12)) = 24 - 8 * ((j - w 0 1) % 4) by omega]
          · rw [if_neg (by omega)]
            by_cases c2 : w 0 1 + 8 ≤ j
            · rw [if_pos (by omega), if_neg (by omega), if_neg (by omega), if_pos (by omega), show 24 - 8 * (j - (w 0 1 + 8)) = 24 - 8 * ((j - w 0 1) % 4) by omega]
            · rw [if_neg (by omega)]
              by_cases c1 : w 0 1 + 4 ≤ j
              · rw [if_pos (by omega), if_neg (by omega), if_pos (by omega), show 24 - 8 * (j - (w 0 1 + 4)) = 24 - 8 * ((j - w 0 1) % 4) by omega]
              · rw [if_neg (by omega), if_pos (by omega), if_pos (by omega), show 24 - 8 * (j - w 0 1) = 24 - 8 * ((j - w 0 1) % 4) by omega]
      · rw [if_neg c0, if_neg (by omega), if_neg (by omega), if_neg (by omega), if_neg (by omega), if_neg (by omega)]
    have gc : Cal mX7_feed [eR 0, (0, a), (0, b), (0, c), (0, d), (0, e)] w (some (0, w 0 1 + 20)) (wX7_putBytes (wX7_putBytes (wX7_putBytes (wX7_putBytes (wX7_putBytes w a) b) c) d) e) := by
      refine Cal.of (by decide +kernel) (Nat.le_of_ble_eq_true rfl) ?_
      rw [← l5]
      apply tX7_feed_0 w a b c d e t2 (fun _ => zX7_putBytes w a ea (by omega)) (fun _ => zX7_putBytes _ b eb (by rw [l1]; omega)) (fun _ => zX7_putBytes _ c ec (by rw [l2]; omega)) (fun _ => zX7_putBytes _ d ed (by rw [l3]; omega)) (fun _ => zX7_putBytes _ e ee (by rw [l4]; omega))
      · intro z; exact absurd z h
      · intro _; exact ⟨rfl, rfl⟩
    generalize wX7_putBytes (wX7_putBytes (wX7_putBytes (wX7_putBytes (wX7_putBytes w a) b) c) d) e = w5 at *
    have h33 : w5 33 = w 33 := f 33 (by decide)
    have e4 : eU w5 33 0 0 33 4 = w 0 1 := by rw [eU_get, if_neg (by decide), h33, t1]
    have ek : ∀ k, eSet (eU w5 33 0 0) 34 (w 0 1) k (fun i => eAnd (fdV a b c d e i / 2 ^ (24 - (8 * (i % 4))).toNat) 255) 33 4 = w 0 1 := fun k => by rw [eSet_ne (by decide)]; exact e4
    refine ⟨w 0 1 + 20, w5, eU (eSet (eU w5 33 0 0) 34 (w 0 1) 20 (fun i => eAnd (fdV a b c d e i / 2 ^ (24 - (8 * (i % 4))).toNat) 255)) 33 4 (w 0 1 + 20), gc, Cal.of (by decide +kernel) (Nat.le_of_ble_eq_true rfl) ?_, ?_⟩
    · apply tX8_feed_0 w5 a b c d e (by rw [h33]; omega)
      · intro z; rw [h33] at z; exfalso; omega
      · intro _
        have key := loop_up (P := fun k => Go mX8_feed 23 [(0, eR 33), (1, (0, a)), (2, (0, b)), (3, (0, c)), (4, (0, d)), (5, (0, e)), (6, (0, k))] [] (eSet (eU w5 33 0 0) 34 (w 0 1) k (fun i => eAnd (fdV a b c d e i / 2 ^ (24 - (8 * (i % 4))).toNat) 255)) (some (0, w 0 1 + 20)) (eU (eSet (eU w5 33 0 0) 34 (w 0 1) 20 (fun i => eAnd (fdV a b c d e i / 2 ^ (24 - (8 * (i % 4))).toNat) 255)) 33 4 (w 0 1 + 20))) 0 20 ?_ ?_ 0 (by decide) (by decide)
        · rw [eSet_0] at key; exact key
        · apply tX8_feed_23 _ a b c d e 20 (by rw [ek]; omega) (by decide) ea eb ec ed ee
          · intro z; exfalso; omega
          · intro z; exfalso; omega
          · intro z; exfalso; omega
          · intro z; exfalso; omega
          · intro z; exfalso; omega
          · intro _; rw [ek]; exact ⟨rfl, rfl⟩
        · intro k k1 k2 ih
          rw [← eSet_next k1] at ih
          apply tX8_feed_23 _ a b c d e k (by rw [ek]; omega) (by omega) ea eb ec ed ee
          · intro _ z1; rw [ek]; unfold fdV at ih ⊢; rw [if_pos z1] at ih; exact ih
          · intro _ z1 z2; rw [ek]; unfold fdV at ih ⊢; rw [if_neg z1, if_pos z2] at ih; exact ih
          · intro _ z1 z2 z3; rw [ek]; unfold fdV at ih ⊢; rw [if_neg z1, if_neg z2, if_pos z3] at ih; exact ih
          · intro _ z1 z2 z3 z4; rw [ek]; unfold fdV at ih ⊢; rw [if_neg z1, if_neg z2, if_neg z3, if_pos z4] at ih; exact ih
          · intro _ z1 z2 z3 z4; rw [ek]; unfold fdV at ih ⊢; rw [if_neg z1, if_neg z2, if_neg z3, if_neg z4] at ih; exact ih
          · intro z; exfalso; omega
    · have g : Fr [0, 1, 33, 34] w (eU (eSet (eU w5 33 0 0) 34 (w 0 1) 20 (fun i => eAnd (fdV a b c d e i / 2 ^ (24 - (8 * (i % 4))).toNat) 255)) 33 4 (w 0 1 + 20)) := by
        intro k hk
        have n33 : k ≠ 33 := fun q => hk (by rw [q]; decide)
        have n34 : k ≠ 34 := fun q => hk (by rw [q]; decide)
        rw [eU_ne n33, eSet_ne n34, eU_ne n33]
        exact f k (fun q => hk ((show ∀ k ∈ [0, 1], k ∈ [0, 1, 33, 34] by decide) k q))
      have g0 : eU (eSet (eU w5 33 0 0) 34 (w 0 1) 20 (fun i => eAnd (fdV a b c d e i / 2 ^ (24 - (8 * (i % 4))).toNat) 255)) 33 4 (w 0 1 + 20) 0 = w5 0 := by rw [eU_ne (by decide), eSet_ne (by decide), eU_ne (by decide)]
      have g1 : eU (eSet (eU w5 33 0 0) 34 (w 0 1) 20 (fun i => eAnd (fdV a b c d e i / 2 ^ (24 - (8 * (i % 4))).toNat) 255)) 33 4 (w 0 1 + 20) 1 = w5 1 := by rw [eU_ne (by decide), eSet_ne (by decide), eU_ne (by decide)]
      have g33 : ∀ i, i ≠ 0 → i ≠ 4 → eU (eSet (eU w5 33 0 0) 34 (w 0 1) 20 (fun i => eAnd (fdV a b c d e i / 2 ^ (24 - (8 * (i % 4))).toNat) 255)) 33 4 (w 0 1 + 20) 33 i = w 33 i := fun i h0 h4 => by
        rw [eU_get, if_neg h4, eSet_ne (by decide), eU_get, if_neg h0, h33]
      have g334 : eU (eSet (eU w5 33 0 0) 34 (w 0 1) 20 (fun i => eAnd (fdV a b c d e i / 2 ^ (24 - (8 * (i % 4))).toNat) 255)) 33 4 (w 0 1 + 20) 33 4 = w 0 1 + 20 := by rw [eU_get, if_pos rfl]
      have g34 : ∀ j, eU (eSet (eU w5 33 0 0) 34 (w 0 1) 20 (fun i => eAnd (fdV a b c d e i / 2 ^ (24 - (8 * (i % 4))).toNat) 255)) 33 4 (w 0 1 + 20) 34 j = if w 0 1 ≤ j ∧ j < w 0 1 + 20 then eAnd (fdV a b c d e (j - w 0 1) / 2 ^ (24 - (8 * ((j - w 0 1) % 4))).toNat) 255 else w 34 j := fun j => by
        rw [eU_ne (by decide), eSet_at, eU_ne (by decide), f 34 (by decide)]
      refine IV_stay hI g (by decide) (fun i i1 i2 => g33 i (by omega) (by omega)) ⟨?_, ?_, fun j j1 j2 => ?_⟩ ?_ ?_
      · rw [g334, g0, l5]
      · rw [g0, l5]; omega
      · rw [g1, g34, e1 j]
        by_cases c0 : w 0 1 ≤ j ∧ j < w 0 1 + 20
        · rw [if_pos c0, if_pos c0, eAnd_255, eByte_mod]
          have := eByte_b (fdV a b c d e (j - w 0 1) / 2 ^ (24 - 8 * ((j - w 0 1) % 4)).toNat)
          exact ⟨⟨this.1, by omega⟩, rfl⟩
        · rw [if_neg c0, if_neg c0]; exact t3 j j1 j2
      · unfold MO; rw [g 37 (by decide), g 40 (by decide)]; exact hQ
      · unfold TR; rw [g33 1 (by decide) (by decide), g33 7 (by decide) (by decide), g33 2 (by decide) (by decide), g0, e0 2 (by decide), e0 3 (by decide), e0 4 (by decide)]; exact hR

