/-! what the class keeps ready is right -/
def CA (w : eW) : Prop := (w 13 4 = 0 ∨ RC w (wallsOf w)) ∧ (w 16 9 = 0 ∨ RY w) ∧ (w 16 10 = 0 ∨ RMs w) ∧ (w 16 11 = 0 ∨ (RCt w ∧ RC w (wallsOf w) ∧ RMs w)) ∧ (w 24 9 = 0 ∨ RE w)
theorem RC_keep {S : List Nat} {w w1 : eW} (h : Fr S w w1) (hS : 2 ∉ S ∧ 3 ∉ S ∧ 13 ∉ S ∧ 14 ∉ S ∧ 15 ∉ S) (hR : RC w (wallsOf w)) : RC w1 (wallsOf w1) := by
  rw [wallsOf_fr h ⟨hS.1, hS.2.1⟩]
  exact RC_fr h hS.2.2 hR
theorem CA_fr {S : List Nat} {w w1 : eW} (h : Fr S w w1) (hS : ∀ k ∈ S, k = 0 ∨ (25 ≤ k ∧ k ≤ 29) ∨ 31 ≤ k) (hC : CA w) : CA w1 := by
  have n : ∀ k : Nat, ¬ (k = 0 ∨ (25 ≤ k ∧ k ≤ 29) ∨ 31 ≤ k) → k ∉ S := fun k hk q => hk (hS k q)
  obtain ⟨c1, c2, c3, c4, c5⟩ := hC
  have e13 := h.at 13 (n 13 (by decide)) 4
  have e9 := h.at 16 (n 16 (by decide)) 9
  have e10 := h.at 16 (n 16 (by decide)) 10
  have e11 := h.at 16 (n 16 (by decide)) 11
  have e24 := h.at 24 (n 24 (by decide)) 9
  have k1 : RC w (wallsOf w) → RC w1 (wallsOf w1) := RC_keep h ⟨n 2 (by decide), n 3 (by decide), n 13 (by decide), n 14 (by decide), n 15 (by decide)⟩
  have k2 : RMs w → RMs w1 := RMs_fr h ⟨n 2 (by decide), n 3 (by decide), n 4 (by decide), n 17 (by decide), n 18 (by decide), n 19 (by decide), n 21 (by decide)⟩ e9 e10
  refine ⟨?_, ?_, ?_, ?_, ?_⟩
  · rw [e13]; exact c1.imp id k1
  · rw [e9]; exact c2.imp id (RY_fr h ⟨n 2 (by decide), n 3 (by decide), n 4 (by decide), n 17 (by decide), n 18 (by decide)⟩ e9)
  · rw [e10]; exact c3.imp id k2
  · rw [e11]; exact c4.imp id (fun q => ⟨RCt_fr h ⟨n 2 (by decide), n 3 (by decide), n 4 (by decide), n 22 (by decide), n 23 (by decide)⟩ e11 q.1, k1 q.2.1, k2 q.2.2⟩)
  · rw [e24]; exact c5.imp id (RE_fr h ⟨n 2 (by decide), n 3 (by decide), n 4 (by decide), n 24 (by decide), n 30 (by decide)⟩)
theorem CA_build {w w1 : eW} (h : Fr [13, 14, 15] w w1) (hR : RC w1 (wallsOf w)) (hC : CA w) : CA w1 := by
  obtain ⟨c1, c2, c3, c4, c5⟩ := hC
  have e9 := h.at 16 (by decide) 9
  have e10 := h.at 16 (by decide) 10
  have e11 := h.at 16 (by decide) 11
  have e24 := h.at 24 (by decide) 9
  rw [← wallsOf_fr h (by decide)] at hR
  have k2 : RMs w → RMs w1 := RMs_fr h (by decide) e9 e10
  refine ⟨Or.inr hR, ?_, ?_, ?_, ?_⟩
  · rw [e9]; exact c2.imp id (RY_fr h (by decide) e9)
  · rw [e10]; exact c3.imp id k2
  · rw [e11]; exact c4.imp id (fun q => ⟨RCt_fr h (by decide) e11 q.1, hR, k2 q.2.2⟩)
  · rw [e24]; exact c5.imp id (RE_fr h (by decide))
theorem CA_height {w w1 : eW} (h : FrH w w1) (hC : CA w) : CA w1 := by
  obtain ⟨f1, f2, f3, f4⟩ := h
  obtain ⟨c1, c2, c3, c4, c5⟩ := hC
  have e13 := f1.at 13 (by decide) 4
  have e10 := f2 10 (by decide)
  have e11 := f2 11 (by decide)
  have e24 := f1.at 24 (by decide) 9
  have k1 : RC w (wallsOf w) → RC w1 (wallsOf w1) := RC_keep f1 (by decide)
  have e2 : w1 2 = w 2 := f1 2 (by decide)
  have e21 : w1 21 = w 21 := f1 21 (by decide)
  have k2 : RMs w → RMs w1 := by
    rintro ⟨m1, m2, m3, m4⟩
    refine ⟨by rw [e10]; exact m1, f3.2 m2, ?_, ?_⟩
    · rw [e2]; exact fun px q1 q2 => f4 px (m3 px q1 q2)
    · rw [e2, e21, htC_fr f1 (by decide)]; exact m4
  refine ⟨?_, f3.1, ?_, ?_, ?_⟩
  · rw [e13]; exact c1.imp id k1
  · rw [e10]; exact c3.imp id k2
  · rw [e11]; exact c4.imp id (fun q => ⟨RCt_fr f1 (by decide) e11 q.1, k1 q.2.1, k2 q.2.2⟩)
  · rw [e24]; exact c5.imp id (RE_fr f1 (by decide))
theorem CA_meas {w w1 : eW} (h : Fr [16, 17, 18, 19, 21] w w1) (h2 : ∀ i, i ≠ 9 → i ≠ 10 → w1 16 i = w 16 i) (hm : RMs w1) (hC : CA w) : CA w1 := by
  obtain ⟨c1, c2, c3, c4, c5⟩ := hC
  have e13 := h.at 13 (by decide) 4
  have e11 := h2 11 (by decide) (by decide)
  have e24 := h.at 24 (by decide) 9
  have k1 : RC w (wallsOf w) → RC w1 (wallsOf w1) := RC_keep h (by decide)
  refine ⟨?_, Or.inr hm.2.1, Or.inr hm, ?_, ?_⟩
  · rw [e13]; exact c1.imp id k1
  · rw [e11]; exact c4.imp id (fun q => ⟨RCt_fr h (by decide) e11 q.1, k1 q.2.1, hm⟩)
  · rw [e24]; exact c5.imp id (RE_fr h (by decide))
theorem CA_falls {w w1 : eW} (h : Fr [13, 14, 15, 16, 17, 18, 19, 20, 21, 22, 23] w w1) (hm : RMs w1) (hR : RC w1 (wallsOf w1)) (ht : RCt w1) (hC : CA w) : CA w1 := by
  obtain ⟨c1, c2, c3, c4, c5⟩ := hC
  have e24 := h.at 24 (by decide) 9
  refine ⟨Or.inr hR, Or.inr hm.2.1, Or.inr hm, Or.inr ⟨ht, hR, hm⟩, ?_⟩
  rw [e24]; exact c5.imp id (RE_fr h (by decide))
theorem CA_events {w w1 : eW} (h : Fr [24, 25, 26, 27, 28, 29, 30, 31] w w1) (hE : RE w1) (hC : CA w) : CA w1 := by
  obtain ⟨c1, c2, c3, c4, c5⟩ := hC
  have e13 := h.at 13 (by decide) 4
  have e9 := h.at 16 (by decide) 9
  have e10 := h.at 16 (by decide) 10
  have e11 := h.at 16 (by decide) 11
  have k1 : RC w (wallsOf w) → RC w1 (wallsOf w1) := RC_keep h (by decide)
  have k2 : RMs w → RMs w1 := RMs_fr h (by decide) e9 e10
  refine ⟨?_, ?_, ?_, ?_, Or.inr hE⟩
  · rw [e13]; exact c1.imp id k1
  · rw [e9]; exact c2.imp id (RY_fr h (by decide) e9)
  · rw [e10]; exact c3.imp id k2
  · rw [e11]; exact c4.imp id (fun q => ⟨RCt_fr h (by decide) e11 q.1, k1 q.2.1, k2 q.2.2⟩)
/-! THE INVARIANT: tape, trouble, house, past, what is kept ready -/
def TP (w : eW) : Prop := w 33 4 = w 0 1 ∧ (0 ≤ w 0 1 ∧ w 0 1 ≤ 400) ∧ ∀ j, 0 ≤ j → j < 400 → (-128 ≤ w 1 j ∧ w 1 j ≤ 127) ∧ w 34 j = w 1 j % 256
/-- all marks of the model, also those beyond its number -/
def MO (w : eW) : Prop := ∀ i, 0 ≤ i → i < 16 → (0 ≤ w 37 i ∧ w 37 i ≤ 56 ∧ (i % 2 = 1 → w 37 i ≤ 40)) ∧ (i % 2 = 1 → w 40 i ≤ 40)
def TR (w : eW) : Prop := w 33 1 = w 0 2 ∧ (0 ≤ w 0 2 ∧ w 0 2 ≤ 5) ∧ w 33 7 = w 0 3 ∧ w 33 2 = (if w 0 2 = 4 then w 0 4 else -1)
def HO (w : eW) : Prop := (w 33 28 = 0 ∧ w 2 0 = 0 ∧ w 2 1 = 0 ∧ w 2 2 = 0 ∧ w 6 1 = 0) ∨ (w 33 28 = 1 ∧ 1 ≤ w 2 0 ∧ 1 ≤ w 2 1 ∧ HH w ∧ MK w ∧ ∃ x y, insC w x y)
def PK (W H : Int) (f g : Int → Int) (k : Int) : Prop := (∀ y, 0 ≤ y → y < 10 → (0 ≤ f (k * 14 + y) ∧ f (k * 14 + y) < 16384) ∧ ∀ x, 0 ≤ x → x < 14 → g (k * 144 + (14 * y + x)) = bitv (f (k * 14 + y)) x ∧ (bitv (f (k * 14 + y)) x = 1 → x < W ∧ y < H)) ∧ (∃ x y, 0 ≤ x ∧ x < 14 ∧ 0 ≤ y ∧ y < 10 ∧ bitv (f (k * 14 + y)) x = 1) ∧ ∀ s, 0 ≤ s → s < 4 → (1 ≤ f (k * 14 + 10 + s) ∧ f (k * 14 + 10 + s) ≤ 9) ∧ g (k * 144 + (140 + s)) = f (k * 14 + 10 + s)
def PS (w : eW) : Prop := (0 ≤ w 6 1 ∧ w 6 1 ≤ 10) ∧ ∀ k, 0 ≤ k → k < w 6 1 → PK (w 2 0) (w 2 1) (w 7) (w 39) k
def IV (w : eW) : Prop := HB w ∧ MB w ∧ SM w ∧ HO w ∧ (TP w ∧ MO w) ∧ TR w ∧ PS w ∧ CA w
/-- a question, to the class -/
def QC (w w1 : eW) (v : Int) : Prop := Fr [0, 13, 14, 15, 16, 17, 18, 19, 20, 21, 22, 23, 24, 25, 26, 27, 28, 29, 30, 31, 32] w w1 ∧ (∀ i, i ≠ 2 → w1 0 i = w 0 i) ∧ w1 0 2 = v ∧ CA w1
/-- a question, to the model -/
def QM (w w1 : eW) (v : Int) : Prop := Fr [33, 41, 42, 43, 44, 45, 46, 47, 48, 49, 50, 51, 52, 53, 54, 55, 56, 57, 58, 59, 60] w w1 ∧ (∀ i, 3 ≤ i → i ≤ 28 → w1 33 i = w 33 i) ∧ w1 33 1 = v ∧ w1 33 2 = -1
theorem QC.of {w w1 : eW} {v : Int} (h : Fr [13, 14, 15, 16, 17, 18, 19, 20, 21, 22, 23, 24, 25, 26, 27, 28, 29, 30, 31, 32] w w1) (hC : CA w1) : QC w (eU w1 0 2 v) v := by
  refine ⟨(h.mono (by decide)).put (by decide), fun i hi => ?_, ?_, CA_fr (S := [0]) ((Fr.rf).put (by decide)) (by decide) hC⟩
  · rw [eU_get, if_neg hi]; exact h.at 0 (by decide) i
  · rw [eU_get, if_pos rfl]
theorem QM.of {w w1 : eW} {v : Int} (h : Fr [33, 41, 42, 43, 44, 45, 46, 47, 48, 49, 50, 51, 52, 53, 54, 55, 56, 57, 58, 59, 60] (eU w 33 0 0) w1) (h2 : ∀ i, 3 ≤ i → i ≤ 28 → w1 33 i = eU w 33 0 0 33 i) : QM w (eU (eU w1 33 1 v) 33 2 (-1)) v := by
  refine ⟨(((Fr.put (o := 33) Fr.rf (by decide)).tr h).put (by decide)).put (by decide), fun i h3 h4 => ?_, ?_, ?_⟩
  · rw [eU_get, if_neg (by omega), eU_get, if_neg (by omega), h2 i h3 h4, eU_get, if_neg (by omega)]
  · rw [eU_get, if_neg (by decide), eU_get, if_pos rfl]
  · rw [eU_get, if_pos rfl]
theorem QC.mid {w w1 : eW} {v : Int} (h : IV w) (q : QC w w1 v) : HB w1 ∧ MB w1 ∧ SM w1 ∧ HO w1 := by
  obtain ⟨i1, i2, i3, i4, i5, i6, i7, i8⟩ := h
  obtain ⟨f, q2, q3, q4⟩ := q
  have e33 : w1 33 = w 33 := f 33 (by decide)
  have e2 : w1 2 = w 2 := f 2 (by decide)
  have e6 : w1 6 = w 6 := f 6 (by decide)
  have e5 : w1 5 = w 5 := f 5 (by decide)
  refine ⟨HB_fr f i1 (by decide), MB_fr f i2 (by decide), i3.fr f (by decide) (fun i _ _ => by rw [e33]), ?_⟩
  unfold HO
  rw [e33, e2, e6]
  refine i4.imp id (fun ⟨a1, a2, a3, a4, a5, x, y, a6⟩ => ⟨a1, a2, a3, HH_fr f a4 (by decide), ?_, x, y, by rw [insC_fr f (by decide)]; exact a6⟩)
  intro k k1 k2
  rw [e2] at k2 ⊢
  rw [e5]
  exact a5 k k1 k2
theorem IV_q {w w1 w2 : eW} {v : Int} (h : IV w) (q : QC w w1 v) (p : QM w1 w2 v) (hv : 0 ≤ v ∧ v ≤ 5 ∧ v ≠ 4) : IV w2 := by
  obtain ⟨m1, m2, m3, m4⟩ := q.mid h
  obtain ⟨i1, i2, i3, i4, i5, i6, i7, i8⟩ := h
  obtain ⟨f, q2, q3, q4⟩ := q
  obtain ⟨g, p2, p3, p4⟩ := p
  have a0 : w2 0 = w1 0 := g 0 (by decide)
  have a2 : w2 2 = w1 2 := g 2 (by decide)
  have a5 : w2 5 = w1 5 := g 5 (by decide)
  have a6 : w2 6 = w1 6 := g 6 (by decide)
  have a38 : w2 38 = w1 38 := g 38 (by decide)
  have a40 : w2 40 = w1 40 := g 40 (by decide)
  have h33 : w1 33 = w 33 := f 33 (by decide)
  refine ⟨HB_fr g m1 (by decide), ?_, m3.fr g (by decide) (fun i j1 j2 => p2 i (by omega) j2), ?_, ?_, ?_, ?_, CA_fr g (by decide) q4⟩
  · unfold MB
    rw [p2 24 (by decide) (by decide), p2 25 (by decide) (by decide), p2 26 (by decide) (by decide), p2 27 (by decide) (by decide), p2 28 (by decide) (by decide), a38, a40]
    exact m2
  · unfold HO
    rw [p2 28 (by decide) (by decide), a2, a6]
    refine m4.imp id (fun ⟨b1, b2, b3, b4, b5, x, y, b6⟩ => ⟨b1, b2, b3, HH_fr g b4 (by decide), ?_, x, y, by rw [insC_fr g (by decide)]; exact b6⟩)
    intro k k1 k2
    rw [a2] at k2 ⊢
    rw [a5]
    exact b5 k k1 k2
  · unfold TP MO
    rw [p2 4 (by decide) (by decide), a0, q2 1 (by decide), h33, g 1 (by decide), f 1 (by decide), g 34 (by decide), f 34 (by decide), g 37 (by decide), f 37 (by decide), a40, f 40 (by decide)]
    exact i5
  · unfold TR
    rw [p2 7 (by decide) (by decide), p3, p4, a0, q3, q2 3 (by decide), h33, if_neg hv.2.2]
    exact ⟨rfl, ⟨hv.1, hv.2.1⟩, i6.2.2.1, rfl⟩
  · unfold PS
    rw [a6, f 6 (by decide), a2, f 2 (by decide), g 7 (by decide), f 7 (by decide), g 39 (by decide), f 39 (by decide)]
    exact i7
/-- a step of the law: both answer alike (t: 0 an int, 1 a long) -/
def ST (t : Nat) (mc mm : eM) (as : List eV) : Prop := ∀ w, IV w → ∃ (x : Int) (w1 w2 : eW), Cal mc (eR 0 :: as) w (some (t, x)) w1 ∧ Cal mm (eR 33 :: as) w1 (some (t, x)) w2 ∧ IV w2
