/-! lanes: the row or column to which a side's time is just the height -/
def lnB (t o h : Int) : Int := if h % t = 0 then (if o - h / t < 0 then -9 else (if (o - h / t) % 4 = 0 then (o - h / t) / 4 - 1 else -9)) else -9
def lnF (t o h : Int) : Int := if h % t = 0 then (if o + h / t < 0 then -9 else (if (o + h / t) % 4 = 0 then (o + h / t) / 4 else -9)) else -9
theorem mul_fix {t h m : Int} (ht : 1 ≤ t) : m * t = h ↔ h % t = 0 ∧ h / t = m := by
  constructor
  · intro e
    rw [← e]
    exact ⟨Int.mul_emod_left _ _, Int.mul_ediv_cancel _ (by omega)⟩
  · intro ⟨h1, h2⟩
    have := Int.mul_ediv_add_emod h t
    rw [h1, h2] at this
    rw [Int.mul_comm]
    omega
theorem lnB_iff {t o h v : Int} (ht : 1 ≤ t) (hv : -1 ≤ v) : lnB t o h = v ↔ (o - 4 * (v + 1)) * t = h := by
  rw [mul_fix ht]
  unfold lnB
  generalize h / t = m
  constructor
  · intro e
    split at e
    · next h1 =>
      refine ⟨h1, ?_⟩
      split at e
      · omega
      · split at e <;> omega
    · omega
  · intro ⟨h1, h2⟩
    rw [if_pos h1, if_neg (by omega), if_pos (by omega)]
    omega
theorem lnF_iff {t o h v : Int} (ht : 1 ≤ t) (ho : 0 ≤ o) (hh : 0 ≤ h) (hv : -1 ≤ v) : lnF t o h = v ↔ (4 * v - o) * t = h := by
  rw [mul_fix ht]
  have hm : 0 ≤ h / t := Int.ediv_nonneg hh (by omega)
  unfold lnF
  revert hm
  generalize h / t = m
  intro hm
  constructor
  · intro e
    split at e
    · next h1 =>
      refine ⟨h1, ?_⟩
      split at e
      · omega
      · split at e <;> omega
    · omega
  · intro ⟨h1, h2⟩
    rw [if_pos h1, if_neg (by omega), if_pos (by omega)]
    omega
theorem lnB_b {t o h : Int} (ht : 1 ≤ t) (ho : 0 ≤ o ∧ o ≤ 56) (hh : 0 ≤ h) : lnB t o h = -9 ∨ (-1 ≤ lnB t o h ∧ lnB t o h ≤ 14) := by
  have hm : 0 ≤ h / t := Int.ediv_nonneg hh (by omega)
  unfold lnB
  revert hm
  generalize h / t = m
  intro hm
  (repeat' split) <;> omega
theorem lnF_b {t o h : Int} (ht : 1 ≤ t) (ho : 0 ≤ o ∧ o ≤ 56) (hh : 0 ≤ h ∧ h ≤ 200000) : lnF t o h = -9 ∨ (0 ≤ lnF t o h ∧ lnF t o h ≤ 60000) := by
  have hm : 0 ≤ h / t := Int.ediv_nonneg hh.1 (by omega)
  have hm2 : h / t ≤ h := Int.ediv_le_self _ hh.1
  unfold lnF
  revert hm hm2
  generalize h / t = m
  intro hm hm2
  (repeat' split) <;> omega
/-- at a point: the reach is h, by the side behind -/
theorem pt_back {A o c d h v : Int} (hd : 1 ≤ d) (hc : 0 ≤ c) (hh : 0 < h) (hv : -1 ≤ v) : (max A (n1 o c d v) = h ∧ (if 0 < o - 4 * (v + 1) then (o - 4 * (v + 1)) * d else 0) = h) ↔ (lnB d o h = v ∧ A ≤ h) := by
  rw [lnB_iff hd hv]
  constructor
  · intro ⟨h1, h2⟩
    split at h2
    · exact ⟨h2, by omega⟩
    · omega
  · intro ⟨h1, h2⟩
    have hp : 0 < o - 4 * (v + 1) := by
      rcases Int.lt_or_le 0 (o - 4 * (v + 1)) with g | g
      · exact g
      · have := Int.mul_nonpos_of_nonpos_of_nonneg g (show 0 ≤ d by omega)
        omega
    rw [if_pos hp, n1_down (by omega) (by omega), h1]
    exact ⟨by omega, rfl⟩
theorem pt_fore {A o c d h v : Int} (hc : 1 ≤ c) (hd : 0 ≤ d) (ho : 0 ≤ o) (hh : 0 < h) (hv : -1 ≤ v) : (max A (n1 o c d v) = h ∧ (if 0 < 4 * v - o then (4 * v - o) * c else 0) = h) ↔ (lnF c o h = v ∧ A ≤ h) := by
  rw [lnF_iff hc ho (by omega) hv]
  constructor
  · intro ⟨h1, h2⟩
    split at h2
    · exact ⟨h2, by omega⟩
    · omega
  · intro ⟨h1, h2⟩
    have hp : 0 < 4 * v - o := by
      rcases Int.lt_or_le 0 (4 * v - o) with g | g
      · exact g
      · have := Int.mul_nonpos_of_nonpos_of_nonneg g (show 0 ≤ c by omega)
        omega
    rw [if_pos hp, n1_up (by omega) (by omega), h1]
    exact ⟨by omega, rfl⟩
/-- the lane of a side; whether it is a row; the time along it -/
def lnS (q : Int → Int) (px py h s : Int) : Int := if s = 0 then lnB (q 0) py h else if s = 1 then lnF (q 1) px h else if s = 2 then lnF (q 2) py h else lnB (q 3) px h
def alS (q : Int → Int) (px py x y s : Int) : Int := if s = 0 ∨ s = 2 then n1 px (q 1) (q 3) x else n1 py (q 2) (q 0) y
def laS (x y s : Int) : Int := if s = 0 ∨ s = 2 then y else x
theorem side_pt {q : Int → Int} (hq : ∀ s, 0 ≤ s → s < 4 → 1 ≤ q s ∧ q s ≤ 2520) {px py x y h s : Int} (hp : 0 ≤ px ∧ 0 ≤ py) (hx : -1 ≤ x) (hy : -1 ≤ y) (hh : 0 < h) (hs : 0 ≤ s ∧ s < 4) : (rcQ q px py x y = h ∧ tmQ q px py x y s = h) ↔ (lnS q px py h s = laS x y s ∧ alS q px py x y s ≤ h) := by
  have q0 := hq 0 (by decide) (by decide)
  have q1 := hq 1 (by decide) (by decide)
  have q2 := hq 2 (by decide) (by decide)
  have q3 := hq 3 (by decide) (by decide)
  have hc : s = 0 ∨ s = 1 ∨ s = 2 ∨ s = 3 := by omega
  rw [rcQ_n1]
  rcases hc with e | e | e | e <;> subst e
  · exact pt_back (by omega) (by omega) hh hy
  · rw [Int.max_comm]
    exact pt_fore (by omega) (by omega) hp.1 hh hx
  · exact pt_fore (by omega) (by omega) hp.2 hh hy
  · rw [Int.max_comm]
    exact pt_back (by omega) (by omega) hh hx
/-- the lane lies in the frame, if h is no more than the reach straight out -/
theorem lane_in {q : Int → Int} (hq : ∀ s, 0 ≤ s → s < 4 → 1 ≤ q s ∧ q s ≤ 2520) {W H px py h s : Int} (hp : 0 ≤ px ∧ px ≤ 4 * W ∧ 0 ≤ py ∧ py ≤ 4 * H) (hW : W ≤ 14 ∧ H ≤ 10) (hh : 0 < h ∧ h ≤ 200000) (h1 : h ≤ (4 * W - px) * q 1) (h2 : h ≤ (4 * H - py) * q 2) (hs : 0 ≤ s ∧ s < 4) : lnS q px py h s = -9 ∨ (-1 ≤ lnS q px py h s ∧ lnS q px py h s ≤ if s = 0 ∨ s = 2 then H else W) := by
  have q0 := hq 0 (by decide) (by decide)
  have q1 := hq 1 (by decide) (by decide)
  have q2 := hq 2 (by decide) (by decide)
  have q3 := hq 3 (by decide) (by decide)
  have hc : s = 0 ∨ s = 1 ∨ s = 2 ∨ s = 3 := by omega
  have bk : ∀ t o V, 1 ≤ t → 0 ≤ o → o ≤ 56 → o ≤ 4 * V → lnB t o h = -9 ∨ (-1 ≤ lnB t o h ∧ lnB t o h ≤ V) := fun t o V t1 o1 o2 o3 => by
    rcases lnB_b (t := t) (o := o) (h := h) t1 ⟨o1, o2⟩ (by omega) with e | e
    · exact Or.inl e
    · have := (lnB_iff (t := t) (o := o) (h := h) t1 e.1).mp rfl
      refine Or.inr ⟨e.1, ?_⟩
      rcases Int.lt_or_le 0 (o - 4 * (lnB t o h + 1)) with g | g
      · omega
      · have := Int.mul_nonpos_of_nonpos_of_nonneg g (show 0 ≤ t by omega)
        omega
  have fr : ∀ t o V, 1 ≤ t → 0 ≤ o → o ≤ 56 → h ≤ (4 * V - o) * t → lnF t o h = -9 ∨ (-1 ≤ lnF t o h ∧ lnF t o h ≤ V) := fun t o V t1 o1 o2 o3 => by
    rcases lnF_b (t := t) (o := o) (h := h) t1 ⟨o1, o2⟩ (by omega) with e | e
    · exact Or.inl e
    · have e2 := (lnF_iff (t := t) (o := o) (h := h) t1 o1 (by omega) (show -1 ≤ lnF t o h by omega)).mp rfl
      refine Or.inr ⟨by omega, ?_⟩
      have e3 : (4 * lnF t o h - o) * t ≤ (4 * V - o) * t := by omega
      have := Int.le_of_mul_le_mul_right e3 (by omega)
      omega
  rcases hc with e | e | e | e <;> subst e
  · exact bk (q 0) py H (by omega) (by omega) (by omega) (by omega)
  · exact fr (q 1) px W (by omega) (by omega) (by omega) h1
  · exact fr (q 2) py H (by omega) (by omega) (by omega) h2
  · exact bk (q 3) px W (by omega) (by omega) (by omega) (by omega)
/-- the height is no more than the reach straight out -/
theorem ht_out {g : Int → Int → Int} {W H : Int} {q : Int → Int} (hq : ∀ s, 0 ≤ s → s < 4 → 1 ≤ q s ∧ q s ≤ 2520) (hg : ∀ x y, g x y = 1 → 0 ≤ x ∧ x < W ∧ 0 ≤ y ∧ y < H) {px py h : Int} (hp : 0 ≤ px ∧ px ≤ 4 * W ∧ 0 ≤ py ∧ py ≤ 4 * H) (h1 : isHt g W H q px py h) : h ≤ (4 * W - px) * q 1 ∧ h ≤ (4 * H - py) * q 2 := by
  have q0 := hq 0 (by decide) (by decide)
  have q1 := hq 1 (by decide) (by decide)
  have q2 := hq 2 (by decide) (by decide)
  have q3 := hq 3 (by decide) (by decide)
  obtain ⟨_, hl⟩ := h1
  have nW : n1 px (q 1) (q 3) W = (4 * W - px) * q 1 := by
    rcases Int.lt_or_le px (4 * W) with e | e
    · exact n1_up (by omega) e
    · rw [n1_zero (by omega) (by omega), show 4 * W - px = 0 by omega, Int.zero_mul]
  have nH : n1 py (q 2) (q 0) H = (4 * H - py) * q 2 := by
    rcases Int.lt_or_le py (4 * H) with e | e
    · exact n1_up (by omega) e
    · rw [n1_zero (by omega) (by omega), show 4 * H - py = 0 by omega, Int.zero_mul]
  have pW : 0 ≤ (4 * W - px) * q 1 := Int.mul_nonneg (by omega) (by omega)
  have pH : 0 ≤ (4 * H - py) * q 2 := Int.mul_nonneg (by omega) (by omega)
  constructor
  · have := hl W (py / 4) (by omega) (by omega) (by omega) (by omega) (fun z => by have := hg _ _ z; omega)
    rw [rcQ_n1, nW, n1_zero (place := py) (by omega) (by omega)] at this
    omega
  · have := hl (px / 4) H (by omega) (by omega) (by omega) (by omega) (fun z => by have := hg _ _ z; omega)
    rw [rcQ_n1, nH, n1_zero (place := px) (by omega) (by omega)] at this
    omega
/-- by which sides the roof slopes -/
def slP (g : Int → Int → Int) (W H : Int) (q : Int → Int) (px py h s : Int) : Prop := ∃ x y, -1 ≤ x ∧ x ≤ W ∧ -1 ≤ y ∧ y ≤ H ∧ ¬ g x y = 1 ∧ rcQ q px py x y = h ∧ tmQ q px py x y s = h
noncomputable def bI (P : Prop) : Int := @ite Int P (Classical.propDecidable P) 1 0
theorem bI_1 {P : Prop} (h : P) : bI P = 1 := if_pos h
theorem bI_0 {P : Prop} (h : ¬ P) : bI P = 0 := if_neg h
theorem bI_b (P : Prop) : bI P = 0 ∨ bI P = 1 := by
  by_cases h : P
  · exact Or.inr (bI_1 h)
  · exact Or.inl (bI_0 h)
theorem bI_congr {P Q : Prop} (h : P ↔ Q) : bI P = bI Q := by rw [propext h]
noncomputable def slQ (g : Int → Int → Int) (W H : Int) (q : Int → Int) (px py h : Int) : Int := if 0 < h then bI (slP g W H q px py h 0) + 2 * bI (slP g W H q px py h 1) + 4 * bI (slP g W H q px py h 2) + 8 * bI (slP g W H q px py h 3) else 0
theorem slQ_b (g : Int → Int → Int) (W H : Int) (q : Int → Int) (px py h : Int) : 0 ≤ slQ g W H q px py h ∧ slQ g W H q px py h < 16 := by
  have h0 := bI_b (slP g W H q px py h 0)
  have h1 := bI_b (slP g W H q px py h 1)
  have h2 := bI_b (slP g W H q px py h 2)
  have h3 := bI_b (slP g W H q px py h 3)
  unfold slQ
  split <;> omega
/-- a lane's time: the least along it -/
def laneT (G : Int → Prop) (U p a b t : Int) : Prop := (∃ u, -1 ≤ u ∧ u ≤ U ∧ ¬ G u ∧ n1 p a b u = t) ∧ ∀ u, ¬ G u → t ≤ n1 p a b u
theorem isN_lane {lane p a b t U : Int} {G : Int → Prop} (ha : 0 ≤ a) (hb : 0 ≤ b) (hG : ∀ u, hb14 lane u ↔ G u) (hU : ∀ u, G u → u < U) (h0 : -1 ≤ U) (hp : p ≤ 4 * U) (h : isN lane p a b t) : laneT G U p a b t := by
  obtain ⟨⟨i, i1, i2, i3, i4⟩, i5⟩ := h
  have hl : ∀ u, ¬ G u → t ≤ n1 p a b u := fun u hu => i5 u (fun z => hu ((hG u).mp z))
  refine ⟨?_, hl⟩
  by_cases hi : i ≤ U
  · exact ⟨i, i1, hi, fun z => i3 ((hG i).mpr z), i4⟩
  · have hw : ¬ G U := fun z => by have := hU _ z; omega
    have e1 := hl _ hw
    have e2 : n1 p a b U ≤ n1 p a b i := by
      rw [n1_up (i := i) ha (by omega)]
      by_cases he : p < 4 * U
      · rw [n1_up ha he]
        exact Int.mul_le_mul_of_nonneg_right (by omega) ha
      · rw [n1_zero (by omega) (by omega)]
        exact Int.mul_nonneg (by omega) ha
    exact ⟨U, h0, by omega, hw, by omega⟩
theorem laneT_le {G : Int → Prop} {U p a b t h : Int} (hl : laneT G U p a b t) : t ≤ h ↔ ∃ u, -1 ≤ u ∧ u ≤ U ∧ ¬ G u ∧ n1 p a b u ≤ h := by
  obtain ⟨⟨u, u1, u2, u3, u4⟩, u5⟩ := hl
  constructor
  · intro e; exact ⟨u, u1, u2, u3, by omega⟩
  · intro ⟨v, v1, v2, v3, v4⟩
    have := u5 v v3
    omega
/-- a side's slope, by its lane -/
theorem slP_lane {g : Int → Int → Int} {W H : Int} {q : Int → Int} (hq : ∀ s, 0 ≤ s → s < 4 → 1 ≤ q s ∧ q s ≤ 2520) {px py h s t : Int} (hp : 0 ≤ px ∧ 0 ≤ py) (hh : 0 < h) (hs : 0 ≤ s ∧ s < 4) (hln : lnS q px py h s = -9 ∨ (-1 ≤ lnS q px py h s ∧ lnS q px py h s ≤ if s = 0 ∨ s = 2 then H else W)) (ht : if s = 0 ∨ s = 2 then laneT (fun x => g x (lnS q px py h s) = 1) W px (q 1) (q 3) t else laneT (fun y => g (lnS q px py h s) y = 1) H py (q 2) (q 0) t) : slP g W H q px py h s ↔ (¬ lnS q px py h s = -9 ∧ t ≤ h) := by
  unfold slP
  by_cases hr : s = 0 ∨ s = 2
  · rw [if_pos hr] at hln ht
    rw [laneT_le ht]
    constructor
    · intro ⟨x, y, x1, x2, y1, y2, e1, e2⟩
      obtain ⟨k1, k2⟩ := (side_pt hq hp x1 y1 hh hs).mp e2
      unfold laS at k1
      unfold alS at k2
      rw [if_pos hr] at k1 k2
      refine ⟨by omega, x, x1, x2, ?_, k2⟩
      rw [k1]; exact e1
    · intro ⟨e0, x, x1, x2, e1, e2⟩
      rcases hln with e | e
      · exact absurd e e0
      · refine ⟨x, lnS q px py h s, x1, x2, e.1, e.2, e1, ?_⟩
        refine (side_pt hq hp x1 e.1 hh hs).mpr ?_
        unfold laS alS
        rw [if_pos hr, if_pos hr]
        exact ⟨rfl, e2⟩
  · rw [if_neg hr] at hln ht
    rw [laneT_le ht]
    constructor
    · intro ⟨x, y, x1, x2, y1, y2, e1, e2⟩
      obtain ⟨k1, k2⟩ := (side_pt hq hp x1 y1 hh hs).mp e2
      unfold laS at k1
      unfold alS at k2
      rw [if_neg hr] at k1 k2
      refine ⟨by omega, y, y1, y2, ?_, k2⟩
      rw [k1]; exact e1
    · intro ⟨e0, y, y1, y2, e1, e2⟩
      rcases hln with e | e
      · exact absurd e e0
      · refine ⟨lnS q px py h s, y, e.1, e.2, y1, y2, e1, ?_⟩
        refine (side_pt hq hp e.1 y1 hh hs).mpr ?_
        unfold laS alS
        rw [if_neg hr, if_neg hr]
        exact ⟨rfl, e2⟩
