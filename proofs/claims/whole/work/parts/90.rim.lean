/-! a side's walls together are as long as the side has walled cells -/
def ttl (S : eW) (s : Int) : Int := sumI (fun k => if S 1 k = s then S 4 k else 0) 0 (S 0 0)
abbrev wl1 (g : Int → Int → Int) (s x y : Int) : Int := if wlI g s x y then 1 else 0
def rmI (g : Int → Int → Int) (s W H : Int) : Int := sumI (fun y => sumI (fun x => wl1 g s x y) 0 W) 0 H
theorem ttl_beg (S : eW) (side x y s : Int) (h0 : 0 ≤ S 0 0) : ttl (wLenS (wBegS S side x y) side x y) s = ttl S s + (if side = s then 1 else 0) := by
  unfold ttl
  rw [wLenS_n, wBegS_n, sumI_succ _ h0]
  simp only [wLB_1, wLB_4]
  congr 1
  exact sumI_congr (fun i a b => by rw [if_neg (show ¬ i = S 0 0 by omega), if_neg (show ¬ i = S 0 0 by omega)])
theorem ttl_len (S : eW) (side x y s : Int) (h0 : 1 ≤ S 0 0) (hs : S 1 (S 0 0 - 1) = side) : ttl (wLenS S side x y) s = ttl S s + (if side = s then 1 else 0) := by
  have e1 : ∀ i, wLenS S side x y 1 i = S 1 i := fun i => rfl
  have q : ∀ f : Int → Int, sumI f 0 (S 0 0) = sumI f 0 (S 0 0 - 1) + f (S 0 0 - 1) := fun f => by
    have := sumI_succ f (a := 0) (b := S 0 0 - 1) (by omega)
    rw [Int.sub_add_cancel] at this
    exact this
  unfold ttl
  rw [wLenS_n, q, q]
  simp only [wL_4, e1, if_pos, hs]
  rw [sumI_congr (f := fun k => if S 1 k = s then (if k = S 0 0 - 1 then S 4 (S 0 0 - 1) + 1 else S 4 k) else 0) (g := fun k => if S 1 k = s then S 4 k else 0) (fun i a b => by rw [if_neg (show ¬ i = S 0 0 - 1 by omega)])]
  by_cases h : side = s
  · simp only [if_pos h]; omega
  · simp only [if_neg h]; omega
theorem ttl_lane (g : Int → Int → Int) (side lane s : Int) (S : eW) (h0 : 0 ≤ S 0 0) : ∀ n : Nat, ttl (wLn g side lane S n) s = ttl S s + (if side = s then sumI (fun b => wl1 g side (pX side lane b) (pY side lane b)) 0 n else 0) ∧ 0 ≤ wLn g side lane S n 0 0 ∧ (wasP g side lane n → 1 ≤ wLn g side lane S n 0 0 ∧ wLn g side lane S n 1 (wLn g side lane S n 0 0 - 1) = side) := by
  intro n
  induction n with
  | zero =>
    refine ⟨?_, h0, fun q => absurd q.1 (by decide)⟩
    show ttl S s = ttl S s + (if side = s then sumI _ 0 0 else 0)
    rw [sumI_self]
    split <;> omega
  | succ n ih =>
    obtain ⟨i1, i2, i3⟩ := ih
    have hw : wasP g side lane ((n + 1 : Nat) : Int) ↔ wlI g side (pX side lane n) (pY side lane n) := by
      unfold wasP
      rw [show ((n + 1 : Nat) : Int) - 1 = n by omega]
      exact ⟨fun q => q.2, fun q => ⟨by omega, q⟩⟩
    rw [wLn, show ((n + 1 : Nat) : Int) = (n : Int) + 1 by omega, sumI_succ _ (by omega)]
    rw [show ((n + 1 : Nat) : Int) = (n : Int) + 1 by omega] at hw
    generalize wLn g side lane S n = T at *
    unfold wCell
    by_cases hl : wlI g side (pX side lane n) (pY side lane n)
    · have e1 : wl1 g side (pX side lane n) (pY side lane n) = 1 := if_pos hl
      rw [if_pos hl]
      by_cases hp : wasP g side lane n
      · obtain ⟨j1, j2⟩ := i3 hp
        rw [if_pos hp, ttl_len _ _ _ _ _ j1 j2, i1]
        refine ⟨?_, by rw [wLenS_n]; exact i2, fun _ => ⟨by rw [wLenS_n]; exact j1, by rw [wLenS_n]; exact j2⟩⟩
        by_cases hs : side = s
        · simp only [if_pos hs]; rw [e1]; omega
        · simp only [if_neg hs]; omega
      · rw [if_neg hp, ttl_beg _ _ _ _ _ i2, i1]
        refine ⟨?_, by rw [wLenS_n, wBegS_n]; omega, fun _ => ⟨by rw [wLenS_n, wBegS_n]; omega, by rw [wLenS_n, wBegS_n, wLB_1, if_pos (by omega)]⟩⟩
        by_cases hs : side = s
        · simp only [if_pos hs]; rw [e1]; omega
        · simp only [if_neg hs]; omega
    · have e0 : wl1 g side (pX side lane n) (pY side lane n) = 0 := if_neg hl
      rw [if_neg hl]
      refine ⟨?_, i2, fun q => absurd (hw.mp q) hl⟩
      rw [i1, e0]
      split <;> omega
theorem ttl_side (g : Int → Int → Int) (side s : Int) (steps : Nat) (S : eW) (h0 : 0 ≤ S 0 0) : ∀ n : Nat, ttl (wSd g side steps S n) s = ttl S s + (if side = s then sumI (fun l => sumI (fun b => wl1 g side (pX side l b) (pY side l b)) 0 steps) 0 n else 0) ∧ 0 ≤ wSd g side steps S n 0 0 := by
  intro n
  induction n with
  | zero =>
    refine ⟨?_, h0⟩
    show ttl S s = ttl S s + (if side = s then sumI _ 0 0 else 0)
    rw [sumI_self]
    split <;> omega
  | succ n ih =>
    obtain ⟨i1, i2⟩ := ih
    obtain ⟨j1, j2, _⟩ := ttl_lane g side n s (wSd g side steps S n) i2 steps
    rw [wSd, show ((n + 1 : Nat) : Int) = (n : Int) + 1 by omega, sumI_succ _ (by omega)]
    refine ⟨?_, j2⟩
    rw [j1, i1]
    by_cases hs : side = s
    · simp only [if_pos hs]; omega
    · simp only [if_neg hs]; omega
theorem ttl_all (g : Int → Int → Int) (W H : Nat) (s : Nat) : ∀ k : Nat, ttl (wAl g W H k) s = (if s < k then rmI g s W H else 0) ∧ 0 ≤ wAl g W H k 0 0 := by
  intro k
  induction k with
  | zero =>
    refine ⟨?_, Int.le_refl _⟩
    rw [if_neg (by omega)]
    exact sumI_self _ _
  | succ k ih =>
    obtain ⟨i1, i2⟩ := ih
    have hc : ((k : Int) = 0 ∨ (k : Int) = 2) ↔ (k = 0 ∨ k = 2) := by omega
    obtain ⟨j1, j2⟩ := ttl_side g k s (if k = 0 ∨ k = 2 then W else H) (wAl g W H k) i2 (if k = 0 ∨ k = 2 then H else W)
    rw [wAl]
    refine ⟨?_, j2⟩
    rw [j1, i1]
    by_cases hs : (k : Int) = s
    · have hk : k = s := by omega
      subst hk
      rw [if_neg (show ¬ k < k by omega), if_pos (show (k : Int) = (k : Int) from rfl), if_pos (show k < k + 1 by omega), Int.zero_add]
      unfold rmI
      by_cases hl : k = 0 ∨ k = 2
      · simp only [if_pos hl, pX, pY, if_pos (hc.mpr hl)]
      · simp only [if_neg hl, pX, pY, if_neg (mt hc.mp hl)]
        exact sumI_swap (fun i j => wl1 g k i j) 0 W 0 H
    · rw [if_neg hs, Int.add_zero]
      by_cases h2 : s < k
      · rw [if_pos h2, if_pos (by omega)]
      · rw [if_neg h2, if_neg (by omega)]
theorem rmI_b (g : Int → Int → Int) (s : Int) {W H : Int} (hW : 0 ≤ W) (hH : 0 ≤ H) : 0 ≤ rmI g s W H ∧ rmI g s W H ≤ H * W := by
  have h1 : ∀ y, 0 ≤ sumI (fun x => wl1 g s x y) 0 W ∧ sumI (fun x => wl1 g s x y) 0 W ≤ W := fun y => by
    have := sumI_bound (f := fun x => wl1 g s x y) (lo := 0) (hi := 1) hW (fun i _ _ => by simp only [wl1]; split <;> omega)
    omega
  have := sumI_bound (f := fun y => sumI (fun x => wl1 g s x y) 0 W) (lo := 0) (hi := W) hH (fun i _ _ => h1 i)
  unfold rmI
  rw [Int.sub_zero] at this
  omega
