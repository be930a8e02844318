/-! the times at which windows come to lie over more columns, rows: of each the columns a, the rows b -/
def evA (ac dn : Int) : Nat → Int × Int
  | 0 => (0, 0)
  | k + 1 => (if ((evA ac dn k).1 + 1) * dn ≤ ((evA ac dn k).2 + 1) * ac then (evA ac dn k).1 + 1 else (evA ac dn k).1, if ((evA ac dn k).2 + 1) * ac ≤ ((evA ac dn k).1 + 1) * dn then (evA ac dn k).2 + 1 else (evA ac dn k).2)
def evT (ac dn : Int) : Nat → Int
  | 0 => 0
  | k + 1 => min (((evA ac dn k).1 + 1) * dn) (((evA ac dn k).2 + 1) * ac)
theorem ev_inv {ac dn : Int} (ha : 1 ≤ ac) (hd : 1 ≤ dn) : ∀ k : Nat, (0 ≤ (evA ac dn k).1 ∧ 0 ≤ (evA ac dn k).2) ∧ ((evA ac dn k).1 * dn ≤ evT ac dn k ∧ evT ac dn k < ((evA ac dn k).1 + 1) * dn) ∧ ((evA ac dn k).2 * ac ≤ evT ac dn k ∧ evT ac dn k < ((evA ac dn k).2 + 1) * ac) ∧ (k : Int) ≤ (evA ac dn k).1 + (evA ac dn k).2 := by
  intro k
  induction k with
  | zero =>
    refine ⟨⟨Int.le_refl _, Int.le_refl _⟩, ⟨?_, ?_⟩, ⟨?_, ?_⟩, ?_⟩
    · show (0 : Int) * dn ≤ 0; omega
    · show (0 : Int) < (0 + 1) * dn; omega
    · show (0 : Int) * ac ≤ 0; omega
    · show (0 : Int) < (0 + 1) * ac; omega
    · show ((0 : Nat) : Int) ≤ 0 + 0; omega
  | succ k ih =>
    obtain ⟨h1, h2, h3, h4⟩ := ih
    rw [evA, evT]
    generalize (evA ac dn k).1 = a at *
    generalize (evA ac dn k).2 = b at *
    generalize evT ac dn k = t at *
    have ea := q_s a dn
    have eb := q_s b ac
    have ea2 := q_s (a + 1) dn
    have eb2 := q_s (b + 1) ac
    rcases Int.lt_trichotomy ((a + 1) * dn) ((b + 1) * ac) with hc | hc | hc
    · rw [if_pos (by omega), if_neg (by omega)]
      dsimp only
      exact ⟨⟨by omega, by omega⟩, ⟨by omega, by omega⟩, ⟨by omega, by omega⟩, by omega⟩
    · rw [if_pos (by omega), if_pos (by omega)]
      dsimp only
      exact ⟨⟨by omega, by omega⟩, ⟨by omega, by omega⟩, ⟨by omega, by omega⟩, by omega⟩
    · rw [if_neg (by omega), if_pos (by omega)]
      dsimp only
      exact ⟨⟨by omega, by omega⟩, ⟨by omega, by omega⟩, ⟨by omega, by omega⟩, by omega⟩
theorem ev_lt {ac dn : Int} (ha : 1 ≤ ac) (hd : 1 ≤ dn) (k : Nat) : evT ac dn k < evT ac dn (k + 1) := by
  obtain ⟨h1, h2, h3, h4⟩ := ev_inv ha hd k
  rw [evT]
  omega
theorem ev_mono (ac dn : Int) (k : Nat) : (evA ac dn k).1 ≤ (evA ac dn (k + 1)).1 ∧ (evA ac dn k).2 ≤ (evA ac dn (k + 1)).2 := by
  rw [evA]
  dsimp only
  refine ⟨?_, ?_⟩
  · split <;> omega
  · split <;> omega
/-- something may still stand -/
def evL (ac dn W H : Int) (k : Nat) : Prop := (evA ac dn k).1 < W ∧ (evA ac dn k).2 < H
theorem evL_dn {ac dn W H : Int} {k : Nat} (h : evL ac dn W H (k + 1)) : evL ac dn W H k := by
  have := ev_mono ac dn k
  unfold evL at *
  omega
theorem evL_first {ac dn W H : Int} (h0 : 1 ≤ W ∧ 1 ≤ H) : ∀ k : Nat, ¬ evL ac dn W H k → ∃ j : Nat, j + 1 ≤ k ∧ evL ac dn W H j ∧ ¬ evL ac dn W H (j + 1) := by
  intro k
  induction k with
  | zero => intro h; exact absurd (show evL ac dn W H 0 from ⟨by show (0 : Int) < W; omega, by show (0 : Int) < H; omega⟩) h
  | succ k ih =>
    intro h
    by_cases hk : evL ac dn W H k
    · exact ⟨k, by omega, hk, h⟩
    · obtain ⟨j, j1, j2, j3⟩ := ih hk
      exact ⟨j, by omega, j2, j3⟩
/-- the times at which something may change -/
def tmV (ac dn W H v : Int) : Prop := (∃ d, 1 ≤ d ∧ d ≤ W ∧ v = d * dn) ∨ (∃ d, 1 ≤ d ∧ d ≤ H ∧ v = d * ac)
def tmI (f : Int → Int) (n ac dn W H : Int) : Prop := srt f n ∧ (∀ i, 0 ≤ i → i < n → tmV ac dn W H (f i)) ∧ ∀ v, tmV ac dn W H v → ∃ i, 0 ≤ i ∧ i < n ∧ f i = v
theorem tmV_ev {ac dn W H : Int} {k : Nat} (ha : 1 ≤ ac) (hd : 1 ≤ dn) (h : evL ac dn W H k) : tmV ac dn W H (evT ac dn (k + 1)) := by
  obtain ⟨h1, h2, h3, h4⟩ := ev_inv ha hd k
  obtain ⟨h5, h6⟩ := h
  rw [evT]
  rcases Int.le_total (((evA ac dn k).1 + 1) * dn) (((evA ac dn k).2 + 1) * ac) with hc | hc
  · rw [Int.min_eq_left hc]
    exact Or.inl ⟨_, by omega, by omega, rfl⟩
  · rw [Int.min_eq_right hc]
    exact Or.inr ⟨_, by omega, by omega, rfl⟩
theorem tmV_no {ac dn W H : Int} {k : Nat} (ha : 1 ≤ ac) (hd : 1 ≤ dn) {u : Int} (hu : tmV ac dn W H u) (hl : evT ac dn k < u) : evT ac dn (k + 1) ≤ u := by
  obtain ⟨h1, h2, h3, h4⟩ := ev_inv ha hd k
  rw [evT]
  rcases hu with ⟨d, d1, d2, rfl⟩ | ⟨d, d1, d2, rfl⟩
  · have : (evA ac dn k).1 + 1 ≤ d := by
      refine Classical.byContradiction fun z => ?_
      have := q_le (q := dn) (by omega) (show d ≤ (evA ac dn k).1 by omega)
      omega
    have := q_le (q := dn) (by omega) this
    omega
  · have : (evA ac dn k).2 + 1 ≤ d := by
      refine Classical.byContradiction fun z => ?_
      have := q_le (q := ac) (by omega) (show d ≤ (evA ac dn k).2 by omega)
      omega
    have := q_le (q := ac) (by omega) this
    omega
theorem tm_at {f : Int → Int} {n ac dn W H : Int} (hI : tmI f n ac dn W H) (ha : 1 ≤ ac) (hd : 1 ≤ dn) : ∀ k : Nat, evL ac dn W H k → (k : Int) < n ∧ f k = evT ac dn (k + 1) := by
  obtain ⟨hs, h1, h2⟩ := hI
  intro k
  induction k with
  | zero =>
    intro hL
    obtain ⟨j, j1, j2, j3⟩ := h2 _ (tmV_ev ha hd hL)
    have hj : j = 0 := by
      refine Classical.byContradiction fun z => ?_
      have a1 := srt_lt hs (show (0 : Int) ≤ 0 by omega) (show 0 < j by omega) j2
      have a3 : evT ac dn 0 < f 0 := by
        show (0 : Int) < f 0
        rcases h1 0 (by omega) (by omega) with ⟨d, d1, d2, e⟩ | ⟨d, d1, d2, e⟩
        · have := q_le (q := dn) (by omega) d1; omega
        · have := q_le (q := ac) (by omega) d1; omega
      have := tmV_no ha hd (h1 0 (by omega) (by omega)) a3
      have e0 : evT ac dn (0 + 1) = evT ac dn 1 := rfl
      omega
    subst hj
    exact ⟨j2, j3⟩
  | succ k ih =>
    intro hL
    obtain ⟨b1, b2⟩ := ih (evL_dn hL)
    have := ln_next hs h1 h2 (i := (k : Int)) ⟨by omega, b1⟩ b2 (tmV_ev ha hd hL) (ev_lt ha hd (k + 1)) (fun u hu hl => tmV_no ha hd hu hl)
    rw [show ((k + 1 : Nat) : Int) = (k : Int) + 1 by omega]
    exact this
/-- twice the midst of the k-th span -/
def mdT (f : Int → Int) (n k : Int) : Int := if k = 0 then f 0 else if k = n then 2 * f (n - 1) + 1 else f (k - 1) + f k
theorem md_alive {f : Int → Int} {n ac dn W H : Int} (hI : tmI f n ac dn W H) (ha : 1 ≤ ac) (hd : 1 ≤ dn) (k : Nat) (hL : evL ac dn W H k) : mdT f n k = evT ac dn k + evT ac dn (k + 1) := by
  have h := tm_at hI ha hd k hL
  unfold mdT
  cases k with
  | zero => rw [if_pos (show ((0 : Nat) : Int) = 0 from rfl), show evT ac dn 0 = 0 from rfl, Int.zero_add]; exact h.2
  | succ k =>
    have h' := tm_at hI ha hd k (evL_dn hL)
    rw [if_neg (by omega), if_neg (by omega), show ((k + 1 : Nat) : Int) - 1 = k by omega, h.2, h'.2]
theorem md_dead {f : Int → Int} {n ac dn W H : Int} (hI : tmI f n ac dn W H) (ha : 1 ≤ ac) (hd : 1 ≤ dn) (h0 : 1 ≤ W ∧ 1 ≤ H) (k : Nat) (hk : (k : Int) ≤ n) (hL : ¬ evL ac dn W H k) : W ≤ mdT f n k / (2 * dn) ∨ H ≤ mdT f n k / (2 * ac) := by
  obtain ⟨j, j1, j2, j3⟩ := evL_first h0 k hL
  obtain ⟨b1, b2⟩ := tm_at hI ha hd j j2
  have hge : ∀ i : Int, (j : Int) ≤ i → i < n → evT ac dn (j + 1) ≤ f i := fun i z1 z2 => by
    by_cases hc : i = j
    · rw [hc, b2]; exact Int.le_refl _
    · have := srt_lt hI.1 (show (0 : Int) ≤ j by omega) (show (j : Int) < i by omega) z2; omega
  have hp : 2 * evT ac dn (j + 1) ≤ mdT f n k := by
    unfold mdT
    rw [if_neg (by omega)]
    by_cases hc : (k : Int) = n
    · rw [if_pos hc]
      have := hge (n - 1) (by omega) (by omega); omega
    · rw [if_neg hc]
      have e1 := hge (k - 1) (by omega) (by omega)
      have e2 := hge k (by omega) (by omega)
      omega
  obtain ⟨h1, h2, h3, h4⟩ := ev_inv ha hd (j + 1)
  have hd2 : ¬ ((evA ac dn (j + 1)).1 < W ∧ (evA ac dn (j + 1)).2 < H) := j3
  by_cases hc : W ≤ (evA ac dn (j + 1)).1
  · left
    rw [Int.le_ediv_iff_mul_le (by omega)]
    have := q_le (q := dn) (by omega) hc
    rw [Int.mul_left_comm]
    omega
  · right
    rw [Int.le_ediv_iff_mul_le (by omega)]
    have := q_le (q := ac) (by omega) (show H ≤ (evA ac dn (j + 1)).2 by omega)
    rw [Int.mul_left_comm]
    omega
/-- a divided by 2 d in the span of a whole -/
theorem md_div {p d a t t' : Int} (hd : 1 ≤ d) (hp : p = t + t') (h1 : a * d ≤ t) (h2 : t < t') (h3 : t' ≤ (a + 1) * d) : p / (2 * d) = a ∧ p % (2 * d) = p - 2 * (a * d) ∧ 0 < p - 2 * (a * d) := by
  have e := q_s a d
  have h4 : p / (2 * d) = a := by
    apply Int.le_antisymm
    · have : p / (2 * d) < a + 1 := by
        rw [Int.ediv_lt_iff_lt_mul (by omega), Int.mul_left_comm]
        omega
      omega
    · rw [Int.le_ediv_iff_mul_le (by omega), Int.mul_left_comm]
      omega
  refine ⟨h4, ?_, by omega⟩
  have := Int.mul_ediv_add_emod p (2 * d)
  rw [h4, Int.mul_assoc, Int.mul_comm d a] at this
  omega
theorem sT_none {g : Int → Int → Int} {W H m n : Int} (hg : ∀ x y, g x y = 1 → 0 ≤ x ∧ x < W ∧ 0 ≤ y ∧ y < H) (hm : 0 ≤ m) (hn : 0 ≤ n) (h : W ≤ m ∨ H ≤ n) : sT g m n = fun _ _ => False := by
  funext a b
  refine propext ⟨fun z => ?_, fun z => z.elim⟩
  have e1 := hg _ _ (z a b (by omega) (by omega) (by omega) (by omega))
  have e2 := hg _ _ (z (a + m) (b + n) (by omega) (by omega) (by omega) (by omega))
  omega
/-- the stands of the k-th span -/
def stS (g : Int → Int → Int) (ac dn : Int) (k : Nat) : eP := sT g (evA ac dn k).1 (evA ac dn k).2
theorem st_md {g : Int → Int → Int} {f : Int → Int} {n ac dn W H : Int} (hg : ∀ x y, g x y = 1 → 0 ≤ x ∧ x < W ∧ 0 ≤ y ∧ y < H) (hI : tmI f n ac dn W H) (ha : 1 ≤ ac) (hd : 1 ≤ dn) (h0 : 1 ≤ W ∧ 1 ≤ H) (k : Nat) (hk : (k : Int) ≤ n) (hp : 0 ≤ mdT f n k) : sT g (mdT f n k / (2 * dn)) (mdT f n k / (2 * ac)) = stS g ac dn k := by
  obtain ⟨h1, h2, h3, h4⟩ := ev_inv ha hd k
  unfold stS
  by_cases hL : evL ac dn W H k
  · have e := md_alive hI ha hd k hL
    have l := ev_lt ha hd k
    have e1 := md_div hd e h2.1 l (by rw [evT]; exact Int.min_le_left _ _)
    have e2 := md_div ha e h3.1 l (by rw [evT]; exact Int.min_le_right _ _)
    rw [e1.1, e2.1]
  · have := md_dead hI ha hd h0 k hk hL
    rw [sT_none hg (Int.ediv_nonneg hp (by omega)) (Int.ediv_nonneg hp (by omega)) this, sT_none hg h1.1 h1.2 (by unfold evL at hL; omega)]
theorem st_sub {g : Int → Int → Int} {ac dn : Int} (k : Nat) (a b : Int) (h : stS g ac dn (k + 1) a b) : stS g ac dn k a b := by
  have := ev_mono ac dn k
  intro x y h1 h2 h3 h4
  exact h x y h1 (by omega) h3 (by omega)
