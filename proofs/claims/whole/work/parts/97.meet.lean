/-! quarter times that agree; what the model's start has of the class's -/
def qE (q q' : Int → Int) : Prop := q 0 = q' 0 ∧ q 1 = q' 1 ∧ q 2 = q' 2 ∧ q 3 = q' 3
theorem rcQ_E {q q' : Int → Int} (h : qE q q') : rcQ q = rcQ q' := by
  funext px py x y
  unfold rcQ tmQ
  rw [h.1, h.2.1, h.2.2.1, h.2.2.2]
theorem htQ_E {q q' : Int → Int} (h : qE q q') (g : Int → Int → Int) (W H : Int) : htQ g W H q = htQ g W H q' := by
  funext px py
  unfold htQ isHt
  rw [rcQ_E h]
theorem slG_E {q q' : Int → Int} (h : qE q q') (g : Int → Int → Int) (W H : Int) : slG g W H q = slG g W H q' := by
  funext px py
  unfold slG slQ slP tmQ
  rw [htQ_E h, rcQ_E h, h.1, h.2.1, h.2.2.1, h.2.2.2]
theorem drG_E {q q' : Int → Int} (h : qE q q') (g : Int → Int → Int) (W H : Int) (S : eW) : drG g W H q S = drG g W H q' S := by
  funext px py
  unfold drG drQ dbQ isDb dP tmQ
  rw [htQ_E h, rcQ_E h, h.1, h.2.1, h.2.2.1, h.2.2.2]
/-- a sum over 140 cells, row by row -/
theorem sumI_rows (f : Int → Int) : ∀ n : Nat, sumI f 0 (14 * n) = sumI (fun y => sumI (fun x => f (14 * y + x)) 0 14) 0 n := by
  intro n
  induction n with
  | zero => rfl
  | succ n ih =>
    rw [show ((n + 1 : Nat) : Int) = (n : Int) + 1 by omega, sumI_succ _ (by omega), ← ih, sumI_split f (show (0 : Int) ≤ 14 * (n : Int) by omega) (show 14 * (n : Int) ≤ 14 * ((n : Int) + 1) by omega)]
    congr 1
    have := sumI_sh f (14 * (n : Int)) 14
    rw [show 14 * (n : Int) + ((14 : Nat) : Int) = 14 * ((n : Int) + 1) by omega] at this
    exact this
theorem cnt_same {w : eW} (hS : SM w) (hH : HH w) : sumI (w 38) 0 140 = cnt2 w := by
  obtain ⟨⟨b1, b2, b3, b4, b5, b6⟩, b7, b8, b9⟩ := id hH.1
  have h1 := sumI_rows (w 38) 10
  rw [show 14 * ((10 : Nat) : Int) = 140 by decide, show ((10 : Nat) : Int) = 10 by decide] at h1
  rw [h1]
  unfold cnt2
  have e : ∀ y, 0 ≤ y → y < 10 → sumI (fun x => w 38 (14 * y + x)) 0 14 = popI (w 3 y) := by
    intro y y1 y2
    rw [popI_bI]
    refine sumI_congr (fun x x1 x2 => ?_)
    rw [hS.cells x y x1 x2 y1 y2]
    by_cases hb : hb14 (w 3 y) x
    · rw [bI_1 hb]; exact hb.2.2
    · rw [bI_0 hb]
      rcases bitv_01 (w 3 y) x with q | q
      · exact q
      · exact absurd ⟨x1, x2, q⟩ hb
  rw [sumI_congr (g := fun y => popI (w 3 y)) e, sumI_split _ (show (0 : Int) ≤ w 2 1 from b3) b4]
  rw [sumI_z (a := w 2 1) (b := 10), Int.add_zero]
  intro y y1 y2
  rw [popI_bI]
  refine sumI_z (fun x x1 x2 => bI_0 (fun q => ?_))
  have := hH.2.2 y x (by omega) y2 x1 x2 q.2.2
  omega
def MZ (w u : eW) : Prop := MB u ∧ (u 33 24 = w 2 0 ∧ u 33 25 = w 2 1 ∧ u 33 26 = w 2 2 ∧ u 33 27 = w 6 1 ∧ u 33 28 = w 33 28) ∧ gM u = gC w ∧ (u 38 141 + u 38 143 = w 4 1 + w 4 3 ∧ u 38 140 + u 38 142 = w 4 0 + w 4 2) ∧ wallsM u = wallsOf w ∧ qE (qM u) (qC w) ∧ (∀ i, 0 ≤ i → i < 2 * w 2 2 → u 40 i = w 5 i) ∧ (HH w → ∀ k, 140 ≤ k → k < 144 → 1 ≤ u 38 k ∧ u 38 k ≤ 9) ∧ (HH w → sumI (u 38) 0 140 = cnt2 w) ∧ (∀ x y, 0 ≤ x → x < 14 → 0 ≤ y → y < 10 → u 38 (14 * y + x) = bitv (w 3 y) x) ∧ (∀ s, 0 ≤ s → s < 4 → u 38 (140 + s) = w 4 s) ∧ ∀ i, 0 ≤ i → i < 16 → i % 2 = 1 → u 40 i ≤ 40
theorem MZ.of {w u : eW} {S : List Nat} (hB : HB w) (hM : MB w) (hS : SM w) (hQ : MO w) (f : Fr S w u) (hn : 33 ∉ S ∧ 38 ∉ S ∧ 40 ∉ S) : MZ w u := by
  have e33 : u 33 = w 33 := f 33 hn.1
  have e38 : u 38 = w 38 := f 38 hn.2.1
  have e40 : u 40 = w 40 := f 40 hn.2.2
  have eg : gM u = gM w := by
    funext x y
    unfold gM insM
    rw [e33, e38]
  refine ⟨MB_fr f hM hn, ?_, eg.trans (hS.g hB), ?_, ?_, ?_, ?_, ?_, ?_, ?_, ?_, ?_⟩
  · rw [e33]; exact ⟨hS.wide, hS.high, hS.marks, hS.acts, rfl⟩
  · rw [e38]; exact ⟨hS.ac, hS.dn⟩
  · rw [← hS.wl hB]; unfold wallsM; rw [eg, e33]
  · unfold qE qM qC
    rw [e38, hS.speeds 0 (by decide) (by decide), hS.speeds 1 (by decide) (by decide), hS.speeds 2 (by decide) (by decide), hS.speeds 3 (by decide) (by decide)]
    exact ⟨rfl, rfl, rfl, rfl⟩
  · rw [e40]; exact hS.mark
  · rw [e38]; exact fun hH => hS.sp hH
  · rw [e38]; exact cnt_same hS
  · rw [e38]; exact hS.cells
  · rw [e38]; exact hS.speeds
  · rw [e40]; exact fun i i1 i2 => (hQ i i1 i2).2
theorem MZ.keep {w u v : eW} (h : MZ w u) (e38 : v 38 = u 38) (e40 : v 40 = u 40) (e33 : ∀ i, 24 ≤ i → i ≤ 28 → v 33 i = u 33 i) : MZ w v := by
  have eg : gM v = gM u := by
    funext x y
    unfold gM insM
    rw [e33 24 (by decide) (by decide), e33 25 (by decide) (by decide), e38]
  obtain ⟨m1, m2, m3, m4, m5, m6, m7, m8, m9, m10, m11, m12⟩ := h
  refine ⟨?_, ?_, eg.trans m3, ?_, ?_, ?_, ?_, ?_, ?_, ?_, ?_, ?_⟩
  · unfold MB
    rw [e33 24 (by decide) (by decide), e33 25 (by decide) (by decide), e33 26 (by decide) (by decide), e33 27 (by decide) (by decide), e33 28 (by decide) (by decide), e38, e40]
    exact m1
  · rw [e33 24 (by decide) (by decide), e33 25 (by decide) (by decide), e33 26 (by decide) (by decide), e33 27 (by decide) (by decide), e33 28 (by decide) (by decide)]
    exact m2
  · rw [e38]; exact m4
  · rw [← m5]; unfold wallsM; rw [eg, e33 24 (by decide) (by decide), e33 25 (by decide) (by decide)]
  · unfold qM; rw [e38]; exact m6
  · rw [e40]; exact m7
  · rw [e38]; exact m8
  · rw [e38]; exact m9
  · rw [e38]; exact m10
  · rw [e38]; exact m11
  · rw [e40]; exact m12
theorem MZ.z {w u : eW} (h : MZ w u) : MZ w (eU u 33 0 0) := h.keep (eU_ne (by decide)) (eU_ne (by decide)) (fun i h1 h2 => by rw [eU_get, if_neg (by omega)])
theorem MZ.fw {w u v : eW} (h : MZ w u) (f : FrW u v) : MZ w v := h.keep (f.1 38 (by decide)) (f.1 40 (by decide)) (fun i h1 h2 => f.2 i (by omega))
theorem MZ.ht {w u : eW} (h : MZ w u) : htM u = htC w := by
  obtain ⟨m1, m2, m3, m4, m5, m6, m7, m8, m9, m10, m11, m12⟩ := h
  funext px py
  unfold htM htC
  rw [m3, m2.1, m2.2.1, htQ_E m6]
theorem MZ.sl {w u : eW} (h : MZ w u) : slG (gM u) (u 33 24) (u 33 25) (qM u) = slG (gC w) (w 2 0) (w 2 1) (qC w) := by
  obtain ⟨m1, m2, m3, m4, m5, m6, m7, m8, m9, m10, m11, m12⟩ := h
  rw [m3, m2.1, m2.2.1, slG_E m6]
theorem MZ.dr {w u : eW} (h : MZ w u) : drG (gM u) (u 33 24) (u 33 25) (qM u) (wallsM u) = drG (gC w) (w 2 0) (w 2 1) (qC w) (wallsOf w) := by
  obtain ⟨m1, m2, m3, m4, m5, m6, m7, m8, m9, m10, m11, m12⟩ := h
  rw [m3, m2.1, m2.2.1, m5, drG_E m6]
/-- the class's half of a question: answer r, trouble v -/
def SC (mc : eM) (as : List eV) (w : eW) (r : eV) (v : Int) : Prop := ∃ w1, Cal mc (eR 0 :: as) w (some r) (eU w1 0 2 v) ∧ Fr [13, 14, 15, 16, 17, 18, 19, 20, 21, 22, 23, 24, 25, 26, 27, 28, 29, 30, 31, 32] w w1 ∧ CA w1
/-- the model's half -/
def SMo (mm : eM) (as : List eV) (w : eW) (r : eV) (v : Int) : Prop := ∀ u, MZ w u → ∃ u1, Cal mm (eR 33 :: as) u (some r) (eU (eU u1 33 1 v) 33 2 (-1)) ∧ Fr [33, 41, 42, 43, 44, 45, 46, 47, 48, 49, 50, 51, 52, 53, 54, 55, 56, 57, 58, 59, 60] (eU u 33 0 0) u1 ∧ ∀ i, 3 ≤ i → i ≤ 28 → u1 33 i = eU u 33 0 0 33 i
theorem step_q {mc mm : eM} {as : List eV} {w : eW} {r : eV} {v : Int} (h : IV w) (hv : 0 ≤ v ∧ v ≤ 5 ∧ v ≠ 4) (c : SC mc as w r v) (m : SMo mm as w r v) : ∃ (x : Int) (w1 w2 : eW), Cal mc (eR 0 :: as) w (some (r.1, x)) w1 ∧ Cal mm (eR 33 :: as) w1 (some (r.1, x)) w2 ∧ IV w2 := by
  obtain ⟨w1, c1, c2, c3⟩ := c
  have q := QC.of (v := v) c2 c3
  have z : MZ w (eU w1 0 2 v) := MZ.of h.1 h.2.1 h.2.2.1 h.2.2.2.2.1.2 q.1 (by decide)
  obtain ⟨u1, m1, m2, m3⟩ := m _ z
  exact ⟨r.2, _, _, c1, m1, IV_q h q (QM.of m2 m3) hv⟩
theorem IV_0 {w : eW} (h : IV w) : IV (eU w 33 0 0) := by
  obtain ⟨i1, i2, i3, i4, i5, i6, i7, i8⟩ := h
  have f : Fr [33] w (eU w 33 0 0) := Fr.put Fr.rf (by decide)
  have e : ∀ i, i ≠ 0 → eU w 33 0 0 33 i = w 33 i := fun i hi => by rw [eU_get, if_neg hi]
  have e0 : eU w 33 0 0 0 = w 0 := f 0 (by decide)
  have e2 : eU w 33 0 0 2 = w 2 := f 2 (by decide)
  have e5 : eU w 33 0 0 5 = w 5 := f 5 (by decide)
  have e6 : eU w 33 0 0 6 = w 6 := f 6 (by decide)
  refine ⟨HB_fr f i1 (by decide), ?_, i3.fr f (by decide) (fun i j1 j2 => e i (by omega)), ?_, ?_, ?_, ?_, CA_fr f (by decide) i8⟩
  · unfold MB
    rw [e 24 (by decide), e 25 (by decide), e 26 (by decide), e 27 (by decide), e 28 (by decide), f 38 (by decide), f 40 (by decide)]
    exact i2
  · unfold HO
    rw [e 28 (by decide), e2, e6]
    refine i4.imp id (fun ⟨b1, b2, b3, b4, b5, x, y, b6⟩ => ⟨b1, b2, b3, HH_fr f b4 (by decide), ?_, x, y, by rw [insC_fr f (by decide)]; exact b6⟩)
    intro k k1 k2
    rw [e2] at k2 ⊢
    rw [e5]
    exact b5 k k1 k2
  · unfold TP MO
    rw [e 4 (by decide), e0, f 1 (by decide), f 34 (by decide), f 37 (by decide), f 40 (by decide)]
    exact i5
  · unfold TR
    rw [e 7 (by decide), e 1 (by decide), e 2 (by decide), e0]
    exact i6
  · unfold PS
    rw [e6, e2, f 7 (by decide), f 39 (by decide)]
    exact i7
