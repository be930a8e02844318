/-- an act begun: the class's change wc, the model's w2 -/
theorem IV_act2 {w wc w2 : eW} (hI : IV w) (h28 : w 33 28 = 1) (hH0 : HH w) (hne0 : ∃ x y, insC w x y) (fc : Fr [3, 4] (wX7_beginAct w) wc) (fm : Fr [35, 38] (eU (eU (wRem (eU (eU wc 0 2 0) 33 0 0)) 33 1 0) 33 2 (-1)) w2) (hH : HH wc) (hne : ∃ x y, insC wc x y) (hc : ∀ x y, 0 ≤ x → x < 14 → 0 ≤ y → y < 10 → w2 38 (14 * y + x) = bitv (wc 3 y) x) (hs : ∀ s, 0 ≤ s → s < 4 → w2 38 (140 + s) = wc 4 s) : IV w2 := by
  have hS := hI.2.2.1
  have hP := hI.2.2.2.2.2.2.1
  have fb : Fr [3, 4, 6, 7, 13, 16, 24] w wc := ((Fr_begin w).mono (by decide)).tr (fc.mono (by decide))
  have f1 : Fr [0, 3, 4, 6, 7, 13, 16, 24] w (eU wc 0 2 0) := (fb.mono (by decide)).put (by decide)
  have fz : Fr [0, 33] wc (eU (eU wc 0 2 0) 33 0 0) := (Fr.put (o := 0) Fr.rf (by decide)).put (by decide)
  have f0 : Fr [0] wc (eU wc 0 2 0) := Fr.put (o := 0) Fr.rf (by decide)
  have e33 : ∀ i, i ≠ 0 → eU (eU wc 0 2 0) 33 0 0 33 i = w 33 i := fun i hi => by rw [eU_get, if_neg hi, eU_ne (by decide), fb 33 (by decide)]
  obtain ⟨k1, k2, k3⟩ := keep_PK (z := eU (eU wc 0 2 0) 33 0 0) hS hH0 hne0 hP ((fz 38 (by decide)).trans (fb 38 (by decide))) ((fz 39 (by decide)).trans (fb 39 (by decide))) (e33 27 (by decide))
  have fr := Fr_rem (eU (eU wc 0 2 0) 33 0 0)
  have fg : Fr [33, 35, 38, 39] (eU wc 0 2 0) w2 := ((((Fr.put (o := 33) Fr.rf (by decide)).tr (fr.mono (by decide))).put (by decide)).put (by decide)).tr (fm.mono (by decide))
  have m33 := fm 33 (by decide)
  have mi : ∀ i, i ≠ 1 → i ≠ 2 → i ≠ 27 → i ≠ 0 → w2 33 i = w 33 i := fun i h1 h2 h3 h4 => by
    rw [m33, eU_get, if_neg h2, eU_get, if_neg h1, wRem_33 _ h3, e33 i h4]
  have m27 : w2 33 27 = wX7_beginAct w 6 1 := by rw [m33, eU_get, if_neg (by decide), eU_get, if_neg (by decide), k1]
  have c6 : eU wc 0 2 0 6 = wX7_beginAct w 6 := (f0 6 (by decide)).trans (fc 6 (by decide))
  have c7 : eU wc 0 2 0 7 = wX7_beginAct w 7 := (f0 7 (by decide)).trans (fc 7 (by decide))
  have bc := begin_cells w
  refine IV_act (w := w) (w1 := eU wc 0 2 0) hI h28 f1 (fun i hi => ?_) ?_ ?_ fg (fun i h1 h2 h3 => ?_) ?_ ?_ (HH_fr f0 hH (by decide)) ?_ ?_ ?_ ?_ ?_ ?_
  · rw [eU_get, if_neg hi, fb 0 (by decide)]
  · rw [eU_get, if_pos rfl]
  · rw [f0 13 (by decide), f0 16 (by decide), f0 24 (by decide), fc 13 (by decide), fc 16 (by decide), fc 24 (by decide)]; exact bc
  · rw [mi i (by omega) (by omega) h3 (by omega), f0 33 (by decide), fb 33 (by decide)]
  · rw [m33, eU_get, if_neg (by decide), eU_get, if_pos rfl]
  · rw [m33, eU_get, if_pos rfl]
  · obtain ⟨x, y, q⟩ := hne
    exact ⟨x, y, by rw [insC_fr f0 (by decide)]; exact q⟩
  · rw [f0 3 (by decide)]; exact hc
  · rw [f0 4 (by decide)]; exact hs
  · rw [c6]; exact m27
  · rw [c6]; omega
  · rw [c6, c7, fm 39 (by decide), eU_ne (by decide), eU_ne (by decide)]
    exact k3
theorem HH_rows {w wc : eW} (hH : HH w) (h : Fr [3] w wc) (hr : ∀ y, 0 ≤ y → y < 10 → (0 ≤ wc 3 y ∧ wc 3 y < 16384) ∧ ∀ x, 0 ≤ x → x < 14 → bitv (wc 3 y) x = 1 → x < w 2 0 ∧ y < w 2 1) : HH wc := by
  refine ⟨HB_rows hH.1 h (fun i i1 i2 => (hr i i1 i2).1), ?_, fun y x y1 y2 x1 x2 q => ?_⟩
  · rw [h 4 (by decide)]; exact hH.2.1
  · rw [h 2 (by decide)]; exact (hr y y1 y2).2 x x1 x2 q
theorem HH_begin {w : eW} (hH : HH w) : HH (wX7_beginAct w) := HH_fr (Fr_begin w) hH (by decide)
theorem flip_bit {n x x' : Int} (hn : 0 ≤ n ∧ n < 16384) (hx : 0 ≤ x ∧ x < 14) (hx' : 0 ≤ x') : bitv (eXor n (1 * 2 ^ x.toNat)) x' = if x' = x then 1 - bitv n x else bitv n x' := by
  have hp := e_pow14 (k := x) (by omega)
  rw [Int.one_mul, bitv_xor (by omega) (by omega), bitv_pow hx.1 hx']
  have h1 := bitv_01 n x
  have h2 := bitv_01 n x'
  by_cases c : x' = x
  · subst c
    rw [if_pos rfl, if_pos rfl]
    rcases h1 with q | q <;> rw [q] <;> decide
  · rw [if_neg c, if_neg c]
    rcases h2 with q | q <;> rw [q] <;> decide
theorem HH_flip {w : eW} (hH : HH w) {x y : Int} (hx : 0 ≤ x ∧ x < w 2 0) (hy : 0 ≤ y ∧ y < w 2 1) : HH (eU w 3 y (eXor (w 3 y) (1 * 2 ^ x.toNat))) := by
  obtain ⟨⟨b1, b2, b3, b4, b5, b6⟩, b7, b8, b9⟩ := id hH.1
  have hF := (HB_flip hH.1 hx hy).2
  refine HH_rows hH (Fr.put Fr.rf (by decide)) (fun y' y1 y2 => ⟨hF.2.1 y' y1 y2, fun x' x1 x2 q => ?_⟩)
  rw [eU_get] at q
  by_cases c : y' = y
  · rw [if_pos c, flip_bit (b7 y hy.1 (by omega)) (by omega) x1] at q
    by_cases c2 : x' = x
    · subst c2; subst c; exact ⟨hx.2, hy.2⟩
    · rw [if_neg c2] at q
      subst c
      exact hH.2.2 y' x' y1 y2 x1 x2 q
  · rw [if_neg c] at q
    exact hH.2.2 y' x' y1 y2 x1 x2 q
/-- a house of more than one cell has another one -/
theorem other_cell {w : eW} (hH : HH w) {x y : Int} (hi : insC w x y) (hn : ¬ cnt2 w = 1) : ∃ x' y', insC w x' y' ∧ ¬ (x' = x ∧ y' = y) := by
  obtain ⟨⟨b1, b2, b3, b4, b5, b6⟩, b7, b8, b9⟩ := id hH.1
  refine Classical.byContradiction (fun hno => hn ?_)
  have h1 : ∀ x' y', insC w x' y' → x' = x ∧ y' = y := fun x' y' q => Classical.byContradiction (fun z => hno ⟨x', y', q, z⟩)
  obtain ⟨i1, i2, i3, i4, i5⟩ := id hi
  unfold cnt2
  rw [sumI_congr (g := fun i => if i = y then 1 else 0) (fun y' y1 y2 => ?_), sumI_at i3 i4]
  show popI (w 3 y') = if y' = y then 1 else 0
  rw [popI_bI]
  by_cases c : y' = y
  · rw [if_pos c, sumI_congr (g := fun i => if i = x then 1 else 0) (fun x' x1 x2 => ?_), sumI_at i1 (by omega)]
    show bI (hb14 (w 3 y') x') = if x' = x then 1 else 0
    by_cases c2 : x' = x
    · rw [if_pos c2, bI_1]
      exact ⟨x1, x2, by rw [c, c2]; exact i5⟩
    · rw [if_neg c2, bI_0]
      intro q
      have := hH.2.2 y' x' y1 (by omega) x1 x2 q.2.2
      exact c2 (h1 x' y' ⟨x1, this.1, y1, this.2, q.2.2⟩).1
  · rw [if_neg c]
    refine sumI_z (fun x' x1 x2 => bI_0 (fun q => ?_))
    have := hH.2.2 y' x' y1 (by omega) x1 x2 q.2.2
    exact c (h1 x' y' ⟨x1, this.1, y1, this.2, q.2.2⟩).2
theorem cell_bit {w : eW} {x y : Int} (h : 0 ≤ x ∧ x < w 2 0 ∧ 0 ≤ y ∧ y < w 2 1) : (if insC w x y then (1 : Int) else 0) = bitv (w 3 y) x := by
  by_cases c : insC w x y
  · rw [if_pos c]; exact c.2.2.2.2.symm
  · rw [if_neg c]
    rcases bitv_01 (w 3 y) x with q | q
    · exact q.symm
    · exact absurd ⟨h.1, h.2.1, h.2.2.1, h.2.2.2, q⟩ c
theorem s_set (x y b : Int) (hx : eI x) (hy : eI y) (hb : b = 0 ∨ b = 1) : ST 0 mX7_set mX8_set [(0, x), (0, y), (0, b)] := by
  intro w hI
  obtain ⟨hB, hM, hS, hO, -, hT, hP, hC⟩ := id hI
  obtain ⟨⟨b1, b2, b3, b4, b5, b6⟩, b7, b8, b9⟩ := id hB
  have zc := zX7_set w x y b hx hy (by omega) hB hP.1 hb
  by_cases c1 : 0 ≤ x ∧ x < w 2 0 ∧ 0 ≤ y ∧ y < w 2 1
  · rcases hO with ⟨o1, o2, o3, o4, o5⟩ | ⟨o1, o2, o3, hH, hmk, hne⟩
    · exfalso; omega
    have ecb := cell_bit (w := w) c1
    by_cases c2 : bitv (w 3 y) x = b ∨ (insC w x y ∧ cnt2 w = 1)
    · refine step_q (r := (0, -1)) (v := 5) hI (by decide) ⟨w, Cal.as zc ?_ ?_, Fr.rf, hC⟩ (fun u m => ?_)
      · unfold rX7_set
        rw [if_pos c1, ecb]
        by_cases c3 : bitv (w 3 y) x = b
        · rw [if_pos c3]
        · rw [if_neg c3, if_pos (c2.resolve_left c3)]
      · unfold wX7_set
        rw [if_pos c1, ecb]
        by_cases c3 : bitv (w 3 y) x = b
        · rw [if_pos c3]
        · rw [if_neg c3, if_pos (c2.resolve_left c3)]
      · obtain ⟨m1, ⟨n1, n2, n3, n4, n5⟩, m3, m4, m5, m6, m7, m8, m9, m10, m11, m12⟩ := id m
        have ei : (if insM (eU u 33 0 0) x y then (1 : Int) else 0) = bitv (w 3 y) x := by
          rw [← ecb]
          by_cases c : insC w x y
          · rw [if_pos c, if_pos ((m.z.ins x y).mpr c)]
          · rw [if_neg c, if_neg (mt (m.z.ins x y).mp c)]
        have el : (insM (eU u 33 0 0) x y ∧ sumI (eU u 33 0 0 38) 0 140 = 1) ↔ (insC w x y ∧ cnt2 w = 1) := by rw [m.z.ins x y, m.z.2.2.2.2.2.2.2.2.1 hH]
        refine ⟨eU u 33 0 0, Cal.as (zX8_set u x y b hx hy (by omega) m1 hb) ?_ ?_, Fr.rf, fun _ _ _ => rfl⟩
        · unfold rX8_set
          rw [if_pos (by omega), ei]
          by_cases c3 : bitv (w 3 y) x = b
          · rw [if_pos c3]
          · rw [if_neg c3, if_pos (el.mpr (c2.resolve_left c3))]
        · unfold wX8_set
          rw [if_pos (by omega), ei]
          by_cases c3 : bitv (w 3 y) x = b
          · rw [if_pos c3]
          · rw [if_neg c3, if_pos (el.mpr (c2.resolve_left c3))]
    · have c3 : ¬ bitv (w 3 y) x = b := fun q => c2 (Or.inl q)
      have c4 : ¬ (insC w x y ∧ cnt2 w = 1) := fun q => c2 (Or.inr q)
      have eb : b = 1 - bitv (w 3 y) x := by have := bitv_01 (w 3 y) x; omega
      have hHb := HH_begin hH
      have eb2 : wX7_beginAct w 2 = w 2 := Fr_begin w 2 (by decide)
      have eb3 : wX7_beginAct w 3 = w 3 := Fr_begin w 3 (by decide)
      have eb4 : wX7_beginAct w 4 = w 4 := Fr_begin w 4 (by decide)
      have hfl := (HB_flip hHb.1 (x := x) (y := y) (by rw [eb2]; omega) (by rw [eb2]; omega)).1
      have hHc : HH (wX0_flip (wX7_beginAct w) x y) := by rw [hfl]; exact HH_flip hHb (by rw [eb2]; omega) (by rw [eb2]; omega)
      have fc3 : Fr [3] (wX7_beginAct w) (wX0_flip (wX7_beginAct w) x y) := by rw [hfl]; exact Fr.put Fr.rf (by decide)
      have e3 : ∀ y', wX0_flip (wX7_beginAct w) x y 3 y' = if y' = y then eXor (w 3 y) (1 * 2 ^ x.toNat) else w 3 y' := fun y' => by rw [hfl, eU_get, eb3]
      have hbit : ∀ x' y', 0 ≤ x' → x' < 14 → 0 ≤ y' → y' < 10 → bitv (wX0_flip (wX7_beginAct w) x y 3 y') x' = if y' = y ∧ x' = x then b else bitv (w 3 y') x' := by
        intro x' y' x1 x2 y1 y2
        rw [e3]
        by_cases d : y' = y
        · rw [if_pos d, flip_bit (b7 y c1.2.2.1 (by omega)) (by omega) x1, d, eb]
          by_cases d2 : x' = x
          · rw [if_pos d2, if_pos ⟨rfl, d2⟩]
          · rw [if_neg d2, if_neg (fun q => d2 q.2)]
        · rw [if_neg d, if_neg (fun q => d q.1)]
      generalize eC : wX0_flip (wX7_beginAct w) x y = wc at *
      have fw : Fr [3, 6, 7, 13, 16, 24] w wc := ((Fr_begin w).mono (by decide)).tr (fc3.mono (by decide))
      have hne2 : ∃ x' y', insC wc x' y' := by
        by_cases d : b = 1
        · refine ⟨x, y, c1.1, ?_, c1.2.2.1, ?_, ?_⟩
          · rw [fw 2 (by decide)]; exact c1.2.1
          · rw [fw 2 (by decide)]; exact c1.2.2.2
          · have q := hbit x y c1.1 (by omega) c1.2.2.1 (by omega)
            rw [if_pos ⟨rfl, rfl⟩, d] at q
            exact q
        · have hin : insC w x y := ⟨c1.1, c1.2.1, c1.2.2.1, c1.2.2.2, by have := bitv_01 (w 3 y) x; show bitv (w 3 y) x = 1; omega⟩
          obtain ⟨x', y', p1, p2⟩ := other_cell hH hin (fun q => c4 ⟨hin, q⟩)
          obtain ⟨q1, q2, q3, q4, q5⟩ := id p1
          refine ⟨x', y', q1, ?_, q3, ?_, ?_⟩
          · rw [fw 2 (by decide)]; exact q2
          · rw [fw 2 (by decide)]; exact q4
          · have q := hbit x' y' q1 (by omega) q3 (by omega)
            rw [if_neg (fun z => p2 ⟨z.2, z.1⟩)] at q
            exact q.trans q5
      have m : MZ w (eU wc 0 2 0) := MZ.of hB hM hS hI.2.2.2.2.1.2 ((fw.mono (S' := [0, 3, 6, 7, 13, 16, 24]) (by decide)).put (i := 2) (v := 0) (by decide)) (by decide)
      obtain ⟨m1, ⟨n1, n2, n3, n4, n5⟩, m3, m4, m5, m6, m7, m8, m9, m10, m11, m12⟩ := id m
      have ei : (if insM (eU (eU wc 0 2 0) 33 0 0) x y then (1 : Int) else 0) = bitv (w 3 y) x := by
        rw [← ecb]
        by_cases c : insC w x y
        · rw [if_pos c, if_pos ((m.z.ins x y).mpr c)]
        · rw [if_neg c, if_neg (mt (m.z.ins x y).mp c)]
      have el : (insM (eU (eU wc 0 2 0) 33 0 0) x y ∧ sumI (eU (eU wc 0 2 0) 33 0 0 38) 0 140 = 1) ↔ (insC w x y ∧ cnt2 w = 1) := by rw [m.z.ins x y, m.z.2.2.2.2.2.2.2.2.1 hH]
      have r38 : wRem (eU (eU wc 0 2 0) 33 0 0) 38 = w 38 := by rw [wRem_now, eU_ne (by decide), eU_ne (by decide), fw 38 (by decide)]
      have hIV : IV (eU (eU (eU (wRem (eU (eU wc 0 2 0) 33 0 0)) 38 (14 * y + x) b) 33 1 0) 33 2 (-1)) := by
        have ef : ∀ j, eU (eU (eU (wRem (eU (eU wc 0 2 0) 33 0 0)) 38 (14 * y + x) b) 33 1 0) 33 2 (-1) 38 j = if j = 14 * y + x then b else w 38 j := fun j => by
          rw [eU_ne (by decide), eU_ne (by decide), eU_get, r38]
        refine IV_act2 hI o1 hH hne (fc3.mono (by decide)) ?_ hHc hne2 (fun x' y' x1 x2 y1 y2 => ?_) (fun s s1 s2 => ?_)
        · intro k hk
          have n38 : k ≠ 38 := fun q => hk (by rw [q]; decide)
          by_cases d : k = 33
          · subst d
            funext i
            rw [eU_get, eU_get, eU_get, eU_get, eU_ne (by decide)]
          · rw [eU_ne d, eU_ne d, eU_ne n38, eU_ne d, eU_ne d]
        · rw [ef, hbit x' y' x1 x2 y1 y2]
          by_cases d : y' = y ∧ x' = x
          · rw [if_pos d, if_pos (by omega)]
          · rw [if_neg d, if_neg (by omega)]
            exact hS.cells x' y' x1 x2 y1 y2
        · rw [ef, if_neg (by omega), fw 4 (by decide)]
          exact hS.speeds s s1 s2
      have hr : sumI ((eU (wRem (eU (eU wc 0 2 0) 33 0 0)) 38 (14 * y + x) b) 38) 0 140 = cnt2 wc := by
        have hcs := cnt_same hIV.2.2.1 (by
          rcases hIV.2.2.2.1 with ⟨q, -⟩ | ⟨-, -, -, q, -⟩
          · exfalso
            rw [eU_get, if_neg (by decide), eU_get, if_neg (by decide), eU_ne (by decide), wRem_33 _ (by decide), eU_get, if_neg (by decide)] at q
            omega
          · exact q)
        rw [eU_ne (by decide), eU_ne (by decide)] at hcs
        rw [hcs]
        unfold cnt2
        rw [eU_ne (by decide), eU_ne (by decide), eU_ne (by decide), Fr_rem _ 3 (by decide), eU_ne (by decide), eU_ne (by decide)]
        rw [eU_ne (by decide), eU_ne (by decide), eU_ne (by decide), Fr_rem _ 2 (by decide), eU_ne (by decide), eU_ne (by decide)]
      refine ⟨cnt2 wc, eU wc 0 2 0, _, Cal.as zc ?_ ?_, Cal.as (zX8_set (eU wc 0 2 0) x y b hx hy (by omega) m1 hb) ?_ ?_, hIV⟩
      · unfold rX7_set
        rw [if_pos c1, ecb, if_neg c3, if_neg c4, eC]
      · unfold wX7_set
        rw [if_pos c1, ecb, if_neg c3, if_neg c4, eC]
      · unfold rX8_set
        rw [if_pos (by omega), ei, if_neg c3, if_neg (mt el.mp c4), ← hr]
        rcases hb with q | q
        · rw [if_pos q, q]
        · rw [if_neg (by omega), q]
      · unfold wX8_set
        rw [if_pos (by omega), ei, if_neg c3, if_neg (mt el.mp c4)]
        rcases hb with q | q
        · rw [if_pos q, q]
        · rw [if_neg (by omega), q]
  · refine step_q (r := (0, -1)) (v := 1) hI (by decide) ⟨w, Cal.as zc ?_ ?_, Fr.rf, hC⟩ (fun u m => ?_)
    · unfold rX7_set; rw [if_neg c1]
    · unfold wX7_set; rw [if_neg c1]
    · obtain ⟨m1, ⟨n1, n2, n3, n4, n5⟩, m3, m4, m5, m6, m7, m8, m9, m10, m11, m12⟩ := id m
      refine ⟨eU u 33 0 0, Cal.as (zX8_set u x y b hx hy (by omega) m1 hb) ?_ ?_, Fr.rf, fun _ _ _ => rfl⟩
      · unfold rX8_set; rw [if_neg (by omega)]
      · unfold wX8_set; rw [if_neg (by omega)]

