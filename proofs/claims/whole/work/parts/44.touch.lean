theorem andnot_nat {a b : Int} (ha : 0 ≤ a ∧ a < 16384) (hb : 0 ≤ b ∧ b < 16384) : eAnd a (eXor b (-1)) = ((a.toNat &&& (b.toNat ^^^ 4294967295) : Nat) : Int) := by
  unfold eAnd eXor
  rw [Int32.ofInt_toInt]
  have e : (Int32.ofInt a &&& (Int32.ofInt b ^^^ Int32.ofInt (-1))).toBitVec.toNat = a.toNat &&& (b.toNat ^^^ 4294967295) := by
    rw [Int32.toBitVec_and, Int32.toBitVec_xor, BitVec.toNat_and, BitVec.toNat_xor, e_toNat ha.1 (by omega), e_toNat hb.1 (by omega), show (Int32.ofInt (-1)).toBitVec.toNat = 4294967295 by decide]
  have hl : a.toNat &&& (b.toNat ^^^ 4294967295) ≤ a.toNat := Nat.and_le_left
  rw [e_ofBits (by rw [e]; omega), e]
theorem andnot {a b : Int} (ha : 0 ≤ a ∧ a < 16384) (hb : 0 ≤ b ∧ b < 16384) : (0 ≤ eAnd a (eXor b (-1)) ∧ eAnd a (eXor b (-1)) < 16384) ∧ ∀ i, hb14 (eAnd a (eXor b (-1))) i ↔ (hb14 a i ∧ ¬ hb14 b i) := by
  rw [andnot_nat ha hb]
  have hl : a.toNat &&& (b.toNat ^^^ 4294967295) ≤ a.toNat := Nat.and_le_left
  refine ⟨by omega, fun i => ?_⟩
  unfold hb14
  by_cases hi : 0 ≤ i ∧ i < 14
  · rw [bt_iff (Int.natCast_nonneg _), bt_iff ha.1, bt_iff hb.1]
    unfold bt
    rw [Int.toNat_natCast, Nat.testBit_and, Nat.testBit_xor, show (4294967295 : Nat) = 2 ^ 32 - 1 from rfl, Nat.testBit_two_pow_sub_one, decide_eq_true (show i.toNat < 32 by omega)]
    simp only [hi.1, hi.2, true_and, Bool.and_eq_true]
    cases b.toNat.testBit i.toNat <;> simp
  · constructor
    · intro h; exact absurd ⟨h.1, h.2.1⟩ hi
    · intro h; exact absurd ⟨h.1.1, h.1.2.1⟩ hi
theorem n1_le_iff {p a b i h : Int} (ha : 0 ≤ a) (hb : 0 ≤ b) (hh : 0 ≤ h) : n1 p a b i ≤ h ↔ (¬ h < (4 * i - p) * a) ∧ ¬ h < (p - 4 * (i + 1)) * b := by
  unfold n1
  have e1 : (if 0 < 4 * i - p then (4 * i - p) * a else 0) ≤ h ↔ ¬ h < (4 * i - p) * a := by
    split
    · omega
    · have := Int.mul_nonpos_of_nonpos_of_nonneg (show 4 * i - p ≤ 0 by omega) ha
      omega
  have e2 : (if 0 < p - 4 * (i + 1) then (p - 4 * (i + 1)) * b else 0) ≤ h ↔ ¬ h < (p - 4 * (i + 1)) * b := by
    split
    · omega
    · have := Int.mul_nonpos_of_nonpos_of_nonneg (show p - 4 * (i + 1) ≤ 0 by omega) hb
      omega
  rw [← e1, ← e2]
  omega
/-- the first cell of a lane's bits that lies near enough; -1: none -/
def isF (bits p h a b r : Int) : Prop := (r = -1 ∧ ∀ i, hb14 bits i → ¬ n1 p a b i ≤ h) ∨ (0 ≤ r ∧ hb14 bits r ∧ n1 p a b r ≤ h ∧ ∀ i, 0 ≤ i → i < r → ¬ (hb14 bits i ∧ n1 p a b i ≤ h))
/-- a cell by which a drop runs to a side -/
def dP (g : Int → Int → Int) (W H : Int) (q : Int → Int) (px py h s x y : Int) : Prop := -1 ≤ x ∧ x ≤ W ∧ -1 ≤ y ∧ y ≤ H ∧ ¬ g x y = 1 ∧ g (bxS x ((s + 2) % 4)) (byS y ((s + 2) % 4)) = 1 ∧ rcQ q px py x y = h ∧ tmQ q px py x y s = h
/-- the wall to which a drop runs by a side; -1: none -/
def isDb (g : Int → Int → Int) (W H : Int) (q : Int → Int) (S : eW) (px py h s r : Int) : Prop := (r = -1 ∧ ∀ x y, ¬ dP g W H q px py h s x y) ∨ ∃ x y, dP g W H q px py h s x y ∧ (∀ x' y', dP g W H q px py h s x' y' → y < y' ∨ (y = y' ∧ x ≤ x')) ∧ 0 ≤ r ∧ r = S 5 (s * 140 + byS y ((s + 2) % 4) * 14 + bxS x ((s + 2) % 4))
theorem isDb_one {g : Int → Int → Int} {W H : Int} {q : Int → Int} {S : eW} {px py h s r r' : Int} (h1 : isDb g W H q S px py h s r) (h2 : isDb g W H q S px py h s r') : r = r' := by
  rcases h1 with ⟨e1, e2⟩ | ⟨x, y, e1, e2, e3, e4⟩
  · rcases h2 with ⟨k1, k2⟩ | ⟨x', y', k1, k2, k3, k4⟩
    · omega
    · exact absurd k1 (e2 _ _)
  · rcases h2 with ⟨k1, k2⟩ | ⟨x', y', k1, k2, k3, k4⟩
    · exact absurd e1 (k2 _ _)
    · have i1 := e2 _ _ k1
      have i2 := k2 _ _ e1
      have ex : x = x' := by omega
      have ey : y = y' := by omega
      subst ex
      subst ey
      rw [e4, k4]
theorem y_firstE (w : eW) (lane p h : Int) (hH : HH w) (hY : RY w) (hb : 0 ≤ lane ∧ lane < 16384) (hp : 0 ≤ p ∧ p ≤ 56) (hh : 0 ≤ h ∧ h ≤ 200000) : ∃ f, isF lane p h (qC w 1) (qC w 3) f ∧ (-1 ≤ f ∧ f < 14) ∧ Cal mX5_firstTouched [eR 16, (0, lane), (0, p), (0, h), (0, 1), (0, 3)] w (some (0, f)) w := by
  obtain ⟨y1, y2, y3⟩ := id hY
  have qa := qC_b hH 1 (by decide) (by decide)
  have qb := qC_b hH 3 (by decide) (by decide)
  have ea := y2 1 (by decide) (by decide)
  have eb := y2 3 (by decide) (by decide)
  have key := loop_up (P := fun i => (∀ j, 0 ≤ j → j < i → ¬ (hb14 lane j ∧ n1 p (qC w 1) (qC w 3) j ≤ h)) → ∃ f, isF lane p h (qC w 1) (qC w 3) f ∧ (-1 ≤ f ∧ f < 14) ∧ Go mX5_firstTouched 3 [(0, eR 16), (1, (0, lane)), (2, (0, p)), (3, (0, h)), (4, (0, 1)), (5, (0, 3)), (6, (0, i))] [] w (some (0, f)) w) 0 14 ?_ ?_ 0 (by omega) (by omega) (fun j h1 h2 => by omega)
  · obtain ⟨f, f1, f2, f3⟩ := key
    exact ⟨f, f1, f2, Cal.of (by decide +kernel) (Nat.le_of_ble_eq_true rfl) (tX5_firstTouched_0 w lane p h 1 3 f3)⟩
  · intro hn
    refine ⟨-1, Or.inl ⟨rfl, fun i hi hc => hn i hi.1 hi.2.1 ⟨hi, hc⟩⟩, by omega, ?_⟩
    apply tX5_firstTouchedE_3 w lane p h 14 hb (by omega) (by omega) (e_prod (by omega) (by omega)) (e_prod (by omega) (by omega))
    all_goals (intros; first | exact ⟨rfl, rfl⟩ | (exfalso; omega))
  · intro i hi1 hi2 ih hn
    have hle := n1_le_iff (p := p) (a := qC w 1) (b := qC w 3) (i := i) (h := h) (by omega) (by omega) hh.1
    rw [← ea, ← eb] at hle
    by_cases hc : hb14 lane i ∧ n1 p (qC w 1) (qC w 3) i ≤ h
    · refine ⟨i, Or.inr ⟨hi1, hc.1, hc.2, hn⟩, by omega, ?_⟩
      have hc2 := hc.2
      rw [← ea, ← eb] at hc2
      have hd := hle.mp hc2
      apply tX5_firstTouchedE_3 w lane p h i hb (by omega) (by omega) (e_prod (by omega) (by omega)) (e_prod (by omega) (by omega))
      · intro _ z; exact absurd z hd.1
      · intro _ _ z; exact absurd z hd.2
      · intro _ _ _ _; exact ⟨rfl, rfl⟩
      · intro _ _ _ z; exact absurd hc.1 z
      · intro z; omega
    · obtain ⟨f, f1, f2, f3⟩ := ih (fun j h1 h2 => by
        by_cases hj : j = i
        · rw [hj]; exact hc
        · exact hn j h1 (by omega))
      refine ⟨f, f1, f2, ?_⟩
      apply tX5_firstTouchedE_3 w lane p h i hb (by omega) (by omega) (e_prod (by omega) (by omega)) (e_prod (by omega) (by omega))
      · intro _ _; exact f3
      · intro _ _ _; exact f3
      · intro _ z1 z2 z3
        refine absurd ⟨z3, ?_⟩ hc
        rw [← ea, ← eb]
        exact hle.mpr ⟨z1, z2⟩
      · intro _ _ _ _; exact f3
      · intro z; omega
theorem y_firstS (w : eW) (lane p h : Int) (hH : HH w) (hY : RY w) (hb : 0 ≤ lane ∧ lane < 16384) (hp : 0 ≤ p ∧ p ≤ 56) (hh : 0 ≤ h ∧ h ≤ 200000) : ∃ f, isF lane p h (qC w 2) (qC w 0) f ∧ (-1 ≤ f ∧ f < 14) ∧ Cal mX5_firstTouched [eR 16, (0, lane), (0, p), (0, h), (0, 2), (0, 0)] w (some (0, f)) w := by
  obtain ⟨y1, y2, y3⟩ := id hY
  have qa := qC_b hH 2 (by decide) (by decide)
  have qb := qC_b hH 0 (by decide) (by decide)
  have ea := y2 2 (by decide) (by decide)
  have eb := y2 0 (by decide) (by decide)
  have key := loop_up (P := fun i => (∀ j, 0 ≤ j → j < i → ¬ (hb14 lane j ∧ n1 p (qC w 2) (qC w 0) j ≤ h)) → ∃ f, isF lane p h (qC w 2) (qC w 0) f ∧ (-1 ≤ f ∧ f < 14) ∧ Go mX5_firstTouched 3 [(0, eR 16), (1, (0, lane)), (2, (0, p)), (3, (0, h)), (4, (0, 2)), (5, (0, 0)), (6, (0, i))] [] w (some (0, f)) w) 0 14 ?_ ?_ 0 (by omega) (by omega) (fun j h1 h2 => by omega)
  · obtain ⟨f, f1, f2, f3⟩ := key
    exact ⟨f, f1, f2, Cal.of (by decide +kernel) (Nat.le_of_ble_eq_true rfl) (tX5_firstTouched_0 w lane p h 2 0 f3)⟩
  · intro hn
    refine ⟨-1, Or.inl ⟨rfl, fun i hi hc => hn i hi.1 hi.2.1 ⟨hi, hc⟩⟩, by omega, ?_⟩
    apply tX5_firstTouchedS_3 w lane p h 14 hb (by omega) (by omega) (e_prod (by omega) (by omega)) (e_prod (by omega) (by omega))
    all_goals (intros; first | exact ⟨rfl, rfl⟩ | (exfalso; omega))
  · intro i hi1 hi2 ih hn
    have hle := n1_le_iff (p := p) (a := qC w 2) (b := qC w 0) (i := i) (h := h) (by omega) (by omega) hh.1
    rw [← ea, ← eb] at hle
    by_cases hc : hb14 lane i ∧ n1 p (qC w 2) (qC w 0) i ≤ h
    · refine ⟨i, Or.inr ⟨hi1, hc.1, hc.2, hn⟩, by omega, ?_⟩
      have hc2 := hc.2
      rw [← ea, ← eb] at hc2
      have hd := hle.mp hc2
      apply tX5_firstTouchedS_3 w lane p h i hb (by omega) (by omega) (e_prod (by omega) (by omega)) (e_prod (by omega) (by omega))
      · intro _ z; exact absurd z hd.1
      · intro _ _ z; exact absurd z hd.2
      · intro _ _ _ _; exact ⟨rfl, rfl⟩
      · intro _ _ _ z; exact absurd hc.1 z
      · intro z; omega
    · obtain ⟨f, f1, f2, f3⟩ := ih (fun j h1 h2 => by
        by_cases hj : j = i
        · rw [hj]; exact hc
        · exact hn j h1 (by omega))
      refine ⟨f, f1, f2, ?_⟩
      apply tX5_firstTouchedS_3 w lane p h i hb (by omega) (by omega) (e_prod (by omega) (by omega)) (e_prod (by omega) (by omega))
      · intro _ _; exact f3
      · intro _ _ _; exact f3
      · intro _ z1 z2 z3
        refine absurd ⟨z3, ?_⟩ hc
        rw [← ea, ← eb]
        exact hle.mpr ⟨z1, z2⟩
      · intro _ _ _ _; exact f3
      · intro z; omega
theorem y_touch0 (w : eW) (px py h : Int) (hH : HH w) (hY : RY w) (hW : RC w (wallsOf w)) (hp : 0 ≤ px ∧ px ≤ 4 * w 2 0 ∧ 0 ≤ py ∧ py ≤ 4 * w 2 1) (hi : isHt (gC w) (w 2 0) (w 2 1) (qC w) px py h) (hh : 0 < h ∧ h ≤ 200000) : ∃ r, isDb (gC w) (w 2 0) (w 2 1) (qC w) (wallsOf w) px py h 0 r ∧ (-1 ≤ r ∧ r < 280) ∧ Cal mX5_wallTouched [eR 16, (0, 0), (0, px), (0, py), (0, h)] w (some (0, if r = -1 then -2 else r)) w := by
  obtain ⟨⟨b1, b2, b3, b4, b5, b6⟩, b7, b8, b9⟩ := id hH.1
  have hq := qC_b hH
  have hpx : 0 ≤ px ∧ px ≤ 56 ∧ 0 ≤ py ∧ py ≤ 40 := by omega
  have hla := y_X5_laneAt w px py h hH hY hpx (by omega) 0 (by decide) (by decide)
  have hout := ht_out hq gC_in hp hi
  have hln := lane_in hq hp ⟨b2, b4⟩ hh hout.1 hout.2 (s := 0) (by decide)
  have hpt : ∀ x y, dP (gC w) (w 2 0) (w 2 1) (qC w) px py h 0 x y ↔ (lnS (qC w) px py h 0 = y ∧ -1 ≤ x ∧ x ≤ w 2 0 ∧ -1 ≤ y ∧ y ≤ w 2 1 ∧ n1 px (qC w 1) (qC w 3) x ≤ h ∧ ¬ gC w x y = 1 ∧ gC w x (y + 1) = 1) := by
    intro x y
    constructor
    · intro ⟨x1, x2, y1, y2, e1, e2, e3⟩
      have k := (side_pt hq ⟨hp.1, hp.2.2.1⟩ x1 y1 hh.1 (by decide)).mp e3
      exact ⟨k.1, x1, x2, y1, y2, k.2, e1, e2⟩
    · intro ⟨k1, x1, x2, y1, y2, k2, e1, e2⟩
      exact ⟨x1, x2, y1, y2, e1, e2, (side_pt hq ⟨hp.1, hp.2.2.1⟩ x1 y1 hh.1 (by decide)).mpr ⟨k1, k2⟩⟩
  revert hla hln hpt
  generalize lnS (qC w) px py h 0 = ln
  intro hla hln hpt
  have hnb : -9 ≤ ln ∧ ln ≤ 60000 := by
    rcases hln with e | e
    · omega
    · rw [show (if ((0 : Int) = 0 ∨ (0 : Int) = 2) then w 2 1 else w 2 0) = w 2 1 from rfl] at e
      omega
  obtain ⟨n1b, n1i⟩ := andnot (a := rowAt w (ln + 1)) (b := rowAt w ln) (rowAt_b hH.1 _) (rowAt_b hH.1 _)
  obtain ⟨f, f1, f2, f3⟩ := y_firstE w (eAnd (rowAt w (ln + 1)) (eXor (rowAt w ln) (-1))) px h hH hY n1b (by omega) (by omega)
  have hbit : ∀ u, hb14 (eAnd (rowAt w (ln + 1)) (eXor (rowAt w ln) (-1))) u ↔ (insC w u (ln + 1) ∧ ¬ insC w u ln) := fun u => by rw [n1i, hb_ins hH, hb_ins hH]
  rcases f1 with ⟨fe, fn⟩ | ⟨f0, fb, fl, fm⟩
  · refine ⟨-1, Or.inl ⟨rfl, fun x y z => ?_⟩, by omega, ?_⟩
    · obtain ⟨k1, x1, x2, y1, y2, k2, e1, e2⟩ := (hpt x y).mp z
      rw [← k1] at e1 e2
      exact fn x ((hbit _).mpr ⟨gC_1.mp e2, fun q => e1 (gC_1.mpr q)⟩) k2
    · rw [if_pos rfl]
      refine Cal.of (by decide +kernel) (Nat.le_of_ble_eq_true rfl) ?_
      apply tX5_wallTouched0_0 w px py h hH.1 hnb hla (fun _ => f3) f2 (fun _ z => by omega)
      all_goals (intros; first | exact ⟨rfl, rfl⟩ | (exfalso; omega))
  · by_cases h9 : ln = -9
    · refine ⟨-1, Or.inl ⟨rfl, fun x y z => ?_⟩, by omega, ?_⟩
      · have := ((hpt x y).mp z)
        omega
      · rw [if_pos rfl]
        refine Cal.of (by decide +kernel) (Nat.le_of_ble_eq_true rfl) ?_
        apply tX5_wallTouched0_0 w px py h hH.1 hnb hla (fun _ => f3) f2 (fun z => absurd h9 z)
        all_goals (intros; first | exact ⟨rfl, rfl⟩ | contradiction)
    · obtain ⟨i1, i2⟩ := (hbit f).mp fb
      obtain ⟨j1, j2, j3, j4, j5⟩ := id i1
      have hwl : wlI (gC w) 0 f (ln + 1) := by
        refine ⟨gC_1.mpr i1, fun z => i2 ?_⟩
        have := gC_1.mp z
        rw [show bxS f 0 = f by first | rfl | (show ln + 1 - 1 = ln; omega), show byS (ln + 1) 0 = ln by first | rfl | (show ln + 1 - 1 = ln; omega)] at this
        exact this
      obtain ⟨w1, w2, w3⟩ := wall_sem (g := gC w) (W := (w 2 0).toNat) (H := (w 2 1).toNat) (by omega) (by omega) (fun x y z => by have := gC_in x y z; omega) (s := 0) (x := f) (y := (ln + 1)) (by decide) (by decide) (by omega) (by omega) (by omega) (by omega)
      have hb := w2 hwl
      have hbd := wAl_bound (gC w) (w 2 0).toNat (w 2 1).toNat (by omega) (by omega) 4
      have e15 := hW.2.2.2 (0 * 140 + (ln + 1) * 14 + f) (by omega) (by omega)
      refine ⟨wallsOf w 5 (0 * 140 + (ln + 1) * 14 + f), Or.inr ⟨f, ln, ?_, fun x' y' z => ?_, hb.1, ?_⟩, ⟨by have := hb.1; unfold wallsOf; omega, by have := hb.2; unfold wallsOf; omega⟩, ?_⟩
      · refine (hpt _ _).mpr ⟨rfl, by omega, by omega, by omega, by omega, fl, fun z => i2 (gC_1.mp z), gC_1.mpr i1⟩
      · obtain ⟨k1, x1, x2, y1, y2, k2, e1, e2⟩ := (hpt x' y').mp z
        rw [← k1] at e1 e2
        have hge : f ≤ x' := by
          rcases Int.lt_or_le x' f with q | q
          · exact absurd ⟨(hbit _).mpr ⟨gC_1.mp e2, fun q => e1 (gC_1.mpr q)⟩, k2⟩ (fm x' (by have := (gC_in _ _ e2); omega) q)
          · exact q
        omega
      · rfl
      · rw [if_neg (by have := hb.1; unfold wallsOf; omega)]
        refine Cal.of (by decide +kernel) (Nat.le_of_ble_eq_true rfl) ?_
        apply tX5_wallTouched0_0 w px py h hH.1 hnb hla (fun _ => f3) f2 (fun _ _ => by omega)
        · intro z; exact absurd z h9
        · intro _ z; omega
        · intro _ _; exact ⟨by rw [← e15], rfl⟩
theorem y_touch1 (w : eW) (px py h : Int) (hH : HH w) (hY : RY w) (hW : RC w (wallsOf w)) (hp : 0 ≤ px ∧ px ≤ 4 * w 2 0 ∧ 0 ≤ py ∧ py ≤ 4 * w 2 1) (hi : isHt (gC w) (w 2 0) (w 2 1) (qC w) px py h) (hh : 0 < h ∧ h ≤ 200000) : ∃ r, isDb (gC w) (w 2 0) (w 2 1) (qC w) (wallsOf w) px py h 1 r ∧ (-1 ≤ r ∧ r < 280) ∧ Cal mX5_wallTouched [eR 16, (0, 1), (0, px), (0, py), (0, h)] w (some (0, if r = -1 then -2 else r)) w := by
  obtain ⟨⟨b1, b2, b3, b4, b5, b6⟩, b7, b8, b9⟩ := id hH.1
  have hq := qC_b hH
  have hpx : 0 ≤ px ∧ px ≤ 56 ∧ 0 ≤ py ∧ py ≤ 40 := by omega
  have hla := y_X5_laneAt w px py h hH hY hpx (by omega) 1 (by decide) (by decide)
  have hout := ht_out hq gC_in hp hi
  have hln := lane_in hq hp ⟨b2, b4⟩ hh hout.1 hout.2 (s := 1) (by decide)
  have hpt : ∀ x y, dP (gC w) (w 2 0) (w 2 1) (qC w) px py h 1 x y ↔ (lnS (qC w) px py h 1 = x ∧ -1 ≤ x ∧ x ≤ w 2 0 ∧ -1 ≤ y ∧ y ≤ w 2 1 ∧ n1 py (qC w 2) (qC w 0) y ≤ h ∧ ¬ gC w x y = 1 ∧ gC w (x - 1) y = 1) := by
    intro x y
    constructor
    · intro ⟨x1, x2, y1, y2, e1, e2, e3⟩
      have k := (side_pt hq ⟨hp.1, hp.2.2.1⟩ x1 y1 hh.1 (by decide)).mp e3
      exact ⟨k.1, x1, x2, y1, y2, k.2, e1, e2⟩
    · intro ⟨k1, x1, x2, y1, y2, k2, e1, e2⟩
      exact ⟨x1, x2, y1, y2, e1, e2, (side_pt hq ⟨hp.1, hp.2.2.1⟩ x1 y1 hh.1 (by decide)).mpr ⟨k1, k2⟩⟩
  revert hla hln hpt
  generalize lnS (qC w) px py h 1 = ln
  intro hla hln hpt
  have hnb : -9 ≤ ln ∧ ln ≤ 60000 := by
    rcases hln with e | e
    · omega
    · rw [show (if ((1 : Int) = 0 ∨ (1 : Int) = 2) then w 2 1 else w 2 0) = w 2 0 from rfl] at e
      omega
  obtain ⟨n1b, n1i⟩ := andnot (a := colAt w (ln - 1)) (b := colAt w ln) (colAt_b hY _) (colAt_b hY _)
  obtain ⟨f, f1, f2, f3⟩ := y_firstS w (eAnd (colAt w (ln - 1)) (eXor (colAt w ln) (-1))) py h hH hY n1b (by omega) (by omega)
  have hbit : ∀ u, hb14 (eAnd (colAt w (ln - 1)) (eXor (colAt w ln) (-1))) u ↔ (insC w (ln - 1) u ∧ ¬ insC w ln u) := fun u => by rw [n1i, hb_col hH hY, hb_col hH hY]
  rcases f1 with ⟨fe, fn⟩ | ⟨f0, fb, fl, fm⟩
  · refine ⟨-1, Or.inl ⟨rfl, fun x y z => ?_⟩, by omega, ?_⟩
    · obtain ⟨k1, x1, x2, y1, y2, k2, e1, e2⟩ := (hpt x y).mp z
      rw [← k1] at e1 e2
      exact fn y ((hbit _).mpr ⟨gC_1.mp e2, fun q => e1 (gC_1.mpr q)⟩) k2
    · rw [if_pos rfl]
      refine Cal.of (by decide +kernel) (Nat.le_of_ble_eq_true rfl) ?_
      apply tX5_wallTouched1_0 w px py h hH.1 hnb hla (fun _ => f3) f2 (fun _ z => by omega)
      all_goals (intros; first | exact ⟨rfl, rfl⟩ | (exfalso; omega))
  · by_cases h9 : ln = -9
    · refine ⟨-1, Or.inl ⟨rfl, fun x y z => ?_⟩, by omega, ?_⟩
      · have := ((hpt x y).mp z)
        omega
      · rw [if_pos rfl]
        refine Cal.of (by decide +kernel) (Nat.le_of_ble_eq_true rfl) ?_
        apply tX5_wallTouched1_0 w px py h hH.1 hnb hla (fun _ => f3) f2 (fun z => absurd h9 z)
        all_goals (intros; first | exact ⟨rfl, rfl⟩ | contradiction)
    · obtain ⟨i1, i2⟩ := (hbit f).mp fb
      obtain ⟨j1, j2, j3, j4, j5⟩ := id i1
      have hwl : wlI (gC w) 1 (ln - 1) f := by
        refine ⟨gC_1.mpr i1, fun z => i2 ?_⟩
        have := gC_1.mp z
        rw [show bxS (ln - 1) 1 = ln by first | rfl | (show ln - 1 + 1 = ln; omega), show byS f 1 = f by first | rfl | (show ln - 1 + 1 = ln; omega)] at this
        exact this
      obtain ⟨w1, w2, w3⟩ := wall_sem (g := gC w) (W := (w 2 0).toNat) (H := (w 2 1).toNat) (by omega) (by omega) (fun x y z => by have := gC_in x y z; omega) (s := 1) (x := (ln - 1)) (y := f) (by decide) (by decide) (by omega) (by omega) (by omega) (by omega)
      have hb := w2 hwl
      have hbd := wAl_bound (gC w) (w 2 0).toNat (w 2 1).toNat (by omega) (by omega) 4
      have e15 := hW.2.2.2 (1 * 140 + f * 14 + (ln - 1)) (by omega) (by omega)
      refine ⟨wallsOf w 5 (1 * 140 + f * 14 + (ln - 1)), Or.inr ⟨ln, f, ?_, fun x' y' z => ?_, hb.1, ?_⟩, ⟨by have := hb.1; unfold wallsOf; omega, by have := hb.2; unfold wallsOf; omega⟩, ?_⟩
      · refine (hpt _ _).mpr ⟨rfl, by omega, by omega, by omega, by omega, fl, fun z => i2 (gC_1.mp z), gC_1.mpr i1⟩
      · obtain ⟨k1, x1, x2, y1, y2, k2, e1, e2⟩ := (hpt x' y').mp z
        rw [← k1] at e1 e2
        have hge : f ≤ y' := by
          rcases Int.lt_or_le y' f with q | q
          · exact absurd ⟨(hbit _).mpr ⟨gC_1.mp e2, fun q => e1 (gC_1.mpr q)⟩, k2⟩ (fm y' (by have := (gC_in _ _ e2); omega) q)
          · exact q
        omega
      · rfl
      · rw [if_neg (by have := hb.1; unfold wallsOf; omega)]
        refine Cal.of (by decide +kernel) (Nat.le_of_ble_eq_true rfl) ?_
        apply tX5_wallTouched1_0 w px py h hH.1 hnb hla (fun _ => f3) f2 (fun _ _ => by omega)
        · intro z; exact absurd z h9
        · intro _ z; omega
        · intro _ _; exact ⟨by rw [← e15], rfl⟩
theorem y_touch2 (w : eW) (px py h : Int) (hH : HH w) (hY : RY w) (hW : RC w (wallsOf w)) (hp : 0 ≤ px ∧ px ≤ 4 * w 2 0 ∧ 0 ≤ py ∧ py ≤ 4 * w 2 1) (hi : isHt (gC w) (w 2 0) (w 2 1) (qC w) px py h) (hh : 0 < h ∧ h ≤ 200000) : ∃ r, isDb (gC w) (w 2 0) (w 2 1) (qC w) (wallsOf w) px py h 2 r ∧ (-1 ≤ r ∧ r < 280) ∧ Cal mX5_wallTouched [eR 16, (0, 2), (0, px), (0, py), (0, h)] w (some (0, if r = -1 then -2 else r)) w := by
  obtain ⟨⟨b1, b2, b3, b4, b5, b6⟩, b7, b8, b9⟩ := id hH.1
  have hq := qC_b hH
  have hpx : 0 ≤ px ∧ px ≤ 56 ∧ 0 ≤ py ∧ py ≤ 40 := by omega
  have hla := y_X5_laneAt w px py h hH hY hpx (by omega) 2 (by decide) (by decide)
  have hout := ht_out hq gC_in hp hi
  have hln := lane_in hq hp ⟨b2, b4⟩ hh hout.1 hout.2 (s := 2) (by decide)
  have hpt : ∀ x y, dP (gC w) (w 2 0) (w 2 1) (qC w) px py h 2 x y ↔ (lnS (qC w) px py h 2 = y ∧ -1 ≤ x ∧ x ≤ w 2 0 ∧ -1 ≤ y ∧ y ≤ w 2 1 ∧ n1 px (qC w 1) (qC w 3) x ≤ h ∧ ¬ gC w x y = 1 ∧ gC w x (y - 1) = 1) := by
    intro x y
    constructor
    · intro ⟨x1, x2, y1, y2, e1, e2, e3⟩
      have k := (side_pt hq ⟨hp.1, hp.2.2.1⟩ x1 y1 hh.1 (by decide)).mp e3
      exact ⟨k.1, x1, x2, y1, y2, k.2, e1, e2⟩
    · intro ⟨k1, x1, x2, y1, y2, k2, e1, e2⟩
      exact ⟨x1, x2, y1, y2, e1, e2, (side_pt hq ⟨hp.1, hp.2.2.1⟩ x1 y1 hh.1 (by decide)).mpr ⟨k1, k2⟩⟩
  revert hla hln hpt
  generalize lnS (qC w) px py h 2 = ln
  intro hla hln hpt
  have hnb : -9 ≤ ln ∧ ln ≤ 60000 := by
    rcases hln with e | e
    · omega
    · rw [show (if ((2 : Int) = 0 ∨ (2 : Int) = 2) then w 2 1 else w 2 0) = w 2 1 from rfl] at e
      omega
  obtain ⟨n1b, n1i⟩ := andnot (a := rowAt w (ln - 1)) (b := rowAt w ln) (rowAt_b hH.1 _) (rowAt_b hH.1 _)
  obtain ⟨f, f1, f2, f3⟩ := y_firstE w (eAnd (rowAt w (ln - 1)) (eXor (rowAt w ln) (-1))) px h hH hY n1b (by omega) (by omega)
  have hbit : ∀ u, hb14 (eAnd (rowAt w (ln - 1)) (eXor (rowAt w ln) (-1))) u ↔ (insC w u (ln - 1) ∧ ¬ insC w u ln) := fun u => by rw [n1i, hb_ins hH, hb_ins hH]
  rcases f1 with ⟨fe, fn⟩ | ⟨f0, fb, fl, fm⟩
  · refine ⟨-1, Or.inl ⟨rfl, fun x y z => ?_⟩, by omega, ?_⟩
    · obtain ⟨k1, x1, x2, y1, y2, k2, e1, e2⟩ := (hpt x y).mp z
      rw [← k1] at e1 e2
      exact fn x ((hbit _).mpr ⟨gC_1.mp e2, fun q => e1 (gC_1.mpr q)⟩) k2
    · rw [if_pos rfl]
      refine Cal.of (by decide +kernel) (Nat.le_of_ble_eq_true rfl) ?_
      apply tX5_wallTouched2_0 w px py h hH.1 hnb hla (fun _ => f3) f2 (fun _ z => by omega)
      all_goals (intros; first | exact ⟨rfl, rfl⟩ | (exfalso; omega))
  · by_cases h9 : ln = -9
    · refine ⟨-1, Or.inl ⟨rfl, fun x y z => ?_⟩, by omega, ?_⟩
      · have := ((hpt x y).mp z)
        omega
      · rw [if_pos rfl]
        refine Cal.of (by decide +kernel) (Nat.le_of_ble_eq_true rfl) ?_
        apply tX5_wallTouched2_0 w px py h hH.1 hnb hla (fun _ => f3) f2 (fun z => absurd h9 z)
        all_goals (intros; first | exact ⟨rfl, rfl⟩ | contradiction)
    · obtain ⟨i1, i2⟩ := (hbit f).mp fb
      obtain ⟨j1, j2, j3, j4, j5⟩ := id i1
      have hwl : wlI (gC w) 2 f (ln - 1) := by
        refine ⟨gC_1.mpr i1, fun z => i2 ?_⟩
        have := gC_1.mp z
        rw [show bxS f 2 = f by first | rfl | (show ln - 1 + 1 = ln; omega), show byS (ln - 1) 2 = ln by first | rfl | (show ln - 1 + 1 = ln; omega)] at this
        exact this
      obtain ⟨w1, w2, w3⟩ := wall_sem (g := gC w) (W := (w 2 0).toNat) (H := (w 2 1).toNat) (by omega) (by omega) (fun x y z => by have := gC_in x y z; omega) (s := 2) (x := f) (y := (ln - 1)) (by decide) (by decide) (by omega) (by omega) (by omega) (by omega)
      have hb := w2 hwl
      have hbd := wAl_bound (gC w) (w 2 0).toNat (w 2 1).toNat (by omega) (by omega) 4
      have e15 := hW.2.2.2 (2 * 140 + (ln - 1) * 14 + f) (by omega) (by omega)
      refine ⟨wallsOf w 5 (2 * 140 + (ln - 1) * 14 + f), Or.inr ⟨f, ln, ?_, fun x' y' z => ?_, hb.1, ?_⟩, ⟨by have := hb.1; unfold wallsOf; omega, by have := hb.2; unfold wallsOf; omega⟩, ?_⟩
      · refine (hpt _ _).mpr ⟨rfl, by omega, by omega, by omega, by omega, fl, fun z => i2 (gC_1.mp z), gC_1.mpr i1⟩
      · obtain ⟨k1, x1, x2, y1, y2, k2, e1, e2⟩ := (hpt x' y').mp z
        rw [← k1] at e1 e2
        have hge : f ≤ x' := by
          rcases Int.lt_or_le x' f with q | q
          · exact absurd ⟨(hbit _).mpr ⟨gC_1.mp e2, fun q => e1 (gC_1.mpr q)⟩, k2⟩ (fm x' (by have := (gC_in _ _ e2); omega) q)
          · exact q
        omega
      · rfl
      · rw [if_neg (by have := hb.1; unfold wallsOf; omega)]
        refine Cal.of (by decide +kernel) (Nat.le_of_ble_eq_true rfl) ?_
        apply tX5_wallTouched2_0 w px py h hH.1 hnb hla (fun _ => f3) f2 (fun _ _ => by omega)
        · intro z; exact absurd z h9
        · intro _ z; omega
        · intro _ _; exact ⟨by rw [← e15], rfl⟩
theorem y_touch3 (w : eW) (px py h : Int) (hH : HH w) (hY : RY w) (hW : RC w (wallsOf w)) (hp : 0 ≤ px ∧ px ≤ 4 * w 2 0 ∧ 0 ≤ py ∧ py ≤ 4 * w 2 1) (hi : isHt (gC w) (w 2 0) (w 2 1) (qC w) px py h) (hh : 0 < h ∧ h ≤ 200000) : ∃ r, isDb (gC w) (w 2 0) (w 2 1) (qC w) (wallsOf w) px py h 3 r ∧ (-1 ≤ r ∧ r < 280) ∧ Cal mX5_wallTouched [eR 16, (0, 3), (0, px), (0, py), (0, h)] w (some (0, if r = -1 then -2 else r)) w := by
  obtain ⟨⟨b1, b2, b3, b4, b5, b6⟩, b7, b8, b9⟩ := id hH.1
  have hq := qC_b hH
  have hpx : 0 ≤ px ∧ px ≤ 56 ∧ 0 ≤ py ∧ py ≤ 40 := by omega
  have hla := y_X5_laneAt w px py h hH hY hpx (by omega) 3 (by decide) (by decide)
  have hout := ht_out hq gC_in hp hi
  have hln := lane_in hq hp ⟨b2, b4⟩ hh hout.1 hout.2 (s := 3) (by decide)
  have hpt : ∀ x y, dP (gC w) (w 2 0) (w 2 1) (qC w) px py h 3 x y ↔ (lnS (qC w) px py h 3 = x ∧ -1 ≤ x ∧ x ≤ w 2 0 ∧ -1 ≤ y ∧ y ≤ w 2 1 ∧ n1 py (qC w 2) (qC w 0) y ≤ h ∧ ¬ gC w x y = 1 ∧ gC w (x + 1) y = 1) := by
    intro x y
    constructor
    · intro ⟨x1, x2, y1, y2, e1, e2, e3⟩
      have k := (side_pt hq ⟨hp.1, hp.2.2.1⟩ x1 y1 hh.1 (by decide)).mp e3
      exact ⟨k.1, x1, x2, y1, y2, k.2, e1, e2⟩
    · intro ⟨k1, x1, x2, y1, y2, k2, e1, e2⟩
      exact ⟨x1, x2, y1, y2, e1, e2, (side_pt hq ⟨hp.1, hp.2.2.1⟩ x1 y1 hh.1 (by decide)).mpr ⟨k1, k2⟩⟩
  revert hla hln hpt
  generalize lnS (qC w) px py h 3 = ln
  intro hla hln hpt
  have hnb : -9 ≤ ln ∧ ln ≤ 60000 := by
    rcases hln with e | e
    · omega
    · rw [show (if ((3 : Int) = 0 ∨ (3 : Int) = 2) then w 2 1 else w 2 0) = w 2 0 from rfl] at e
      omega
  obtain ⟨n1b, n1i⟩ := andnot (a := colAt w (ln + 1)) (b := colAt w ln) (colAt_b hY _) (colAt_b hY _)
  obtain ⟨f, f1, f2, f3⟩ := y_firstS w (eAnd (colAt w (ln + 1)) (eXor (colAt w ln) (-1))) py h hH hY n1b (by omega) (by omega)
  have hbit : ∀ u, hb14 (eAnd (colAt w (ln + 1)) (eXor (colAt w ln) (-1))) u ↔ (insC w (ln + 1) u ∧ ¬ insC w ln u) := fun u => by rw [n1i, hb_col hH hY, hb_col hH hY]
  rcases f1 with ⟨fe, fn⟩ | ⟨f0, fb, fl, fm⟩
  · refine ⟨-1, Or.inl ⟨rfl, fun x y z => ?_⟩, by omega, ?_⟩
    · obtain ⟨k1, x1, x2, y1, y2, k2, e1, e2⟩ := (hpt x y).mp z
      rw [← k1] at e1 e2
      exact fn y ((hbit _).mpr ⟨gC_1.mp e2, fun q => e1 (gC_1.mpr q)⟩) k2
    · rw [if_pos rfl]
      refine Cal.of (by decide +kernel) (Nat.le_of_ble_eq_true rfl) ?_
      apply tX5_wallTouched3_0 w px py h hH.1 hnb hla (fun _ => f3) f2 (fun _ z => by omega)
      all_goals (intros; first | exact ⟨rfl, rfl⟩ | (exfalso; omega))
  · by_cases h9 : ln = -9
    · refine ⟨-1, Or.inl ⟨rfl, fun x y z => ?_⟩, by omega, ?_⟩
      · have := ((hpt x y).mp z)
        omega
      · rw [if_pos rfl]
        refine Cal.of (by decide +kernel) (Nat.le_of_ble_eq_true rfl) ?_
        apply tX5_wallTouched3_0 w px py h hH.1 hnb hla (fun _ => f3) f2 (fun z => absurd h9 z)
        all_goals (intros; first | exact ⟨rfl, rfl⟩ | contradiction)
    · obtain ⟨i1, i2⟩ := (hbit f).mp fb
      obtain ⟨j1, j2, j3, j4, j5⟩ := id i1
      have hwl : wlI (gC w) 3 (ln + 1) f := by
        refine ⟨gC_1.mpr i1, fun z => i2 ?_⟩
        have := gC_1.mp z
        rw [show bxS (ln + 1) 3 = ln by first | rfl | (show ln + 1 - 1 = ln; omega), show byS f 3 = f by first | rfl | (show ln + 1 - 1 = ln; omega)] at this
        exact this
      obtain ⟨w1, w2, w3⟩ := wall_sem (g := gC w) (W := (w 2 0).toNat) (H := (w 2 1).toNat) (by omega) (by omega) (fun x y z => by have := gC_in x y z; omega) (s := 3) (x := (ln + 1)) (y := f) (by decide) (by decide) (by omega) (by omega) (by omega) (by omega)
      have hb := w2 hwl
      have hbd := wAl_bound (gC w) (w 2 0).toNat (w 2 1).toNat (by omega) (by omega) 4
      have e15 := hW.2.2.2 (3 * 140 + f * 14 + (ln + 1)) (by omega) (by omega)
      refine ⟨wallsOf w 5 (3 * 140 + f * 14 + (ln + 1)), Or.inr ⟨ln, f, ?_, fun x' y' z => ?_, hb.1, ?_⟩, ⟨by have := hb.1; unfold wallsOf; omega, by have := hb.2; unfold wallsOf; omega⟩, ?_⟩
      · refine (hpt _ _).mpr ⟨rfl, by omega, by omega, by omega, by omega, fl, fun z => i2 (gC_1.mp z), gC_1.mpr i1⟩
      · obtain ⟨k1, x1, x2, y1, y2, k2, e1, e2⟩ := (hpt x' y').mp z
        rw [← k1] at e1 e2
        have hge : f ≤ y' := by
          rcases Int.lt_or_le y' f with q | q
          · exact absurd ⟨(hbit _).mpr ⟨gC_1.mp e2, fun q => e1 (gC_1.mpr q)⟩, k2⟩ (fm y' (by have := (gC_in _ _ e2); omega) q)
          · exact q
        omega
      · rfl
      · rw [if_neg (by have := hb.1; unfold wallsOf; omega)]
        refine Cal.of (by decide +kernel) (Nat.le_of_ble_eq_true rfl) ?_
        apply tX5_wallTouched3_0 w px py h hH.1 hnb hla (fun _ => f3) f2 (fun _ _ => by omega)
        · intro z; exact absurd z h9
        · intro _ z; omega
        · intro _ _; exact ⟨by rw [← e15], rfl⟩
