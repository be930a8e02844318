/-! sums over the cells between lines, by stands -/
theorem sumI_cut {h : Int → Int} {a b c d : Int} (h1 : a ≤ b) (h2 : b ≤ c) (h3 : c ≤ d) (z1 : ∀ i, a ≤ i → i < b → h i = 0) (z2 : ∀ i, c ≤ i → i < d → h i = 0) : sumI h a d = sumI h b c := by
  rw [sumI_split h h1 (show b ≤ d by omega), sumI_split h h2 h3, sumI_z z1, sumI_z z2]
  omega
theorem sumI_sh (h : Int → Int) (o : Int) : ∀ n : Nat, sumI h o (o + n) = sumI (fun k => h (o + k)) 0 n := by
  intro n
  induction n with
  | zero => rw [show o + ((0 : Nat) : Int) = o by omega, sumI_self, show ((0 : Nat) : Int) = 0 from rfl, sumI_self]
  | succ n ih => rw [show o + ((n + 1 : Nat) : Int) = o + n + 1 by omega, sumI_succ h (by omega), ih, show ((n + 1 : Nat) : Int) = (n : Int) + 1 by omega, sumI_succ _ (show (0 : Int) ≤ n by omega)]
theorem sumI_sh2 (h : Int → Int) (o : Int) : ∀ n : Nat, sumI h o (o + 2 * n) = sumI (fun k => h (o + 2 * k) + h (o + 2 * k + 1)) 0 n := by
  intro n
  induction n with
  | zero => rw [show o + 2 * ((0 : Nat) : Int) = o by omega, sumI_self, show ((0 : Nat) : Int) = 0 from rfl, sumI_self]
  | succ n ih =>
    rw [show o + 2 * ((n + 1 : Nat) : Int) = o + 2 * n + 1 + 1 by omega, sumI_succ h (by omega), sumI_succ h (by omega), ih, show ((n + 1 : Nat) : Int) = (n : Int) + 1 by omega, sumI_succ _ (show (0 : Int) ≤ n by omega)]
    omega
theorem sumI_mul (c : Int) (f : Int → Int) (a b : Int) : sumI (fun i => c * f i) a b = c * sumI f a b := by
  unfold sumI
  induction (b - a).toNat with
  | zero => rw [sumN, sumN, Int.mul_zero]
  | succ n ih => rw [sumN, sumN, ih, Int.mul_add]
theorem sum2 {h : Int → Int} {N i0 s : Int} (K : Nat) (hs : s = 1 ∨ s = 2) (hi : 0 ≤ i0) (hN : 0 ≤ N) (hz : ∀ a, ¬ (0 ≤ bq s i0 a ∧ bq s i0 a < K ∧ 0 ≤ a ∧ a < N) → h a = 0) : sumI h 0 N = sumI (fun k => h (i0 + s * k) + (if s = 2 then h (i0 + 2 * k + 1) else 0)) 0 K := by
  have e1 : sumI h 0 N = sumI h i0 (i0 + s * K) := by
    have hsK : 0 ≤ s * (K : Int) := Int.mul_nonneg (by omega) (by omega)
    have a1 := sumI_cut (h := h) (a := 0) (b := 0) (c := N) (d := max N (i0 + s * K)) (by omega) hN (by omega) (fun i z1 z2 => by omega) (fun i z1 z2 => hz i (by omega))
    have a2 := sumI_cut (h := h) (a := 0) (b := i0) (c := i0 + s * K) (d := max N (i0 + s * K)) hi (by omega) (by omega) (fun i z1 z2 => hz i (fun q => by
      have := (bq_lt (s := s) (o := i0) (i := i) (k := 0) hs).mp (by rw [Int.mul_zero]; omega)
      omega)) (fun i z1 z2 => hz i (fun q => by
      have := (bq_lt (s := s) (o := i0) (i := i) (k := K) hs).mpr q.2.1
      omega))
    rw [← a1, a2]
  rw [e1]
  rcases hs with rfl | rfl
  · rw [show i0 + 1 * (K : Int) = i0 + K by omega, sumI_sh]
    refine sumI_congr (fun k _ _ => ?_)
    rw [if_neg (by decide), Int.add_zero, Int.one_mul]
  · rw [sumI_sh2]
    refine sumI_congr (fun k _ _ => ?_)
    rw [if_pos rfl]
theorem wsum {T C : eP} {i0 j0 s t uA uB vA vB NX NY : Int} (hs : s = 1 ∨ s = 2) (ht : t = 1 ∨ t = 2) (hi : 0 ≤ i0) (hj : 0 ≤ j0) (hNX : 0 ≤ NX) (hNY : 0 ≤ NY) (hT : sup 14 10 T) (hC : ∀ a b c d, T a b → T c d → adj a b c d → C a b → C c d) (hu : s = 1 → uB = 0) (hv : t = 1 → vB = 0) {P : eP} (hP : ∀ a b, P a b ↔ lf i0 j0 s t T a b ∧ C (bq s i0 a) (bq t j0 b)) (hr : ∀ a b, P a b → 0 ≤ a ∧ a < NX ∧ 0 ≤ b ∧ b < NY) :
    sumI (fun b => sumI (fun a => bI (P a b) * ((if br s i0 a = 1 then uB else uA) * (if br t j0 b = 1 then vB else vA))) 0 NX) 0 NY = (ct1 (fun k l => T k l ∧ C k l) * uA + ctX (fun k l => T k l ∧ C k l) * uB) * vA + (ctY (fun k l => T k l ∧ C k l) * uA + ctB (fun k l => T k l ∧ C k l) * uB) * vB := by
  have z0 : ∀ a b, ¬ P a b → bI (P a b) * ((if br s i0 a = 1 then uB else uA) * (if br t j0 b = 1 then vB else vA)) = 0 := fun a b q => by rw [bI_0 q, Int.zero_mul]
  have inner : ∀ b, sumI (fun a => bI (P a b) * ((if br s i0 a = 1 then uB else uA) * (if br t j0 b = 1 then vB else vA))) 0 NX = sumI (fun k => bI (P (i0 + s * k) b) * (uA * (if br t j0 b = 1 then vB else vA)) + (if s = 2 then bI (P (i0 + 2 * k + 1) b) * (uB * (if br t j0 b = 1 then vB else vA)) else 0)) 0 14 := by
    intro b
    rw [sum2 (i0 := i0) (s := s) 14 hs hi hNX (fun a q => z0 a b (fun z => q ?_))]
    · refine sumI_congr (fun k _ _ => ?_)
      rw [(bq_al hs).2, if_neg (by decide)]
      congr 1
      by_cases hc : s = 2
      · subst hc
        rw [if_pos rfl, if_pos rfl, bq_mid.2, if_pos rfl]
      · rw [if_neg hc, if_neg hc]
    · have h1 := hT _ _ ((hP a b).mp z).1.1
      have h2 := hr a b z
      exact ⟨h1.1, h1.2.1, h2.1, h2.2.1⟩
  rw [sumI_congr (fun b _ _ => inner b)]
  rw [sum2 (i0 := j0) (s := t) 10 ht hj hNY (fun b q => sumI_z (fun k _ _ => ?_))]
  · have cA : ∀ k l, bI (P (i0 + s * k) (j0 + t * l)) = bI (T k l ∧ C k l) := fun k l => bI_congr (by
      rw [hP]; unfold lf
      rw [(bq_al hs).1, (bq_al hs).2, (bq_al ht).1, (bq_al ht).2]
      exact ⟨fun z => ⟨z.1.1, z.2⟩, fun z => ⟨⟨z.1, fun q => absurd q (by decide), fun q => absurd q (by decide), fun q => absurd q (by decide)⟩, z.2⟩⟩)
    have cX : s = 2 → ∀ k l, bI (P (i0 + 2 * k + 1) (j0 + t * l)) = bI ((T k l ∧ C k l) ∧ (T (k + 1) l ∧ C (k + 1) l)) := fun hc k l => bI_congr (by
      subst hc
      rw [hP]; unfold lf
      rw [bq_mid.1, bq_mid.2, (bq_al ht).1, (bq_al ht).2]
      constructor
      · intro z
        have t2 := z.1.2.1 rfl
        exact ⟨⟨z.1.1, z.2⟩, t2, hC _ _ _ _ z.1.1 t2 (by unfold adj; omega) z.2⟩
      · intro z
        exact ⟨⟨z.1.1, fun _ => z.2.1, fun q => absurd q (by decide), fun _ q => absurd q (by decide)⟩, z.1.2⟩)
    have cY : t = 2 → ∀ k l, bI (P (i0 + s * k) (j0 + 2 * l + 1)) = bI ((T k l ∧ C k l) ∧ (T k (l + 1) ∧ C k (l + 1))) := fun hc k l => bI_congr (by
      subst hc
      rw [hP]; unfold lf
      rw [bq_mid.1, bq_mid.2, (bq_al hs).1, (bq_al hs).2]
      constructor
      · intro z
        have t2 := z.1.2.2.1 rfl
        exact ⟨⟨z.1.1, z.2⟩, t2, hC _ _ _ _ z.1.1 t2 (by unfold adj; omega) z.2⟩
      · intro z
        exact ⟨⟨z.1.1, fun q => absurd q (by decide), fun _ => z.2.1, fun q => absurd q (by decide)⟩, z.1.2⟩)
    have cB : s = 2 → t = 2 → ∀ k l, bI (P (i0 + 2 * k + 1) (j0 + 2 * l + 1)) = bI ((T k l ∧ C k l) ∧ (T (k + 1) l ∧ C (k + 1) l) ∧ (T k (l + 1) ∧ C k (l + 1)) ∧ (T (k + 1) (l + 1) ∧ C (k + 1) (l + 1))) := fun hc hc2 k l => bI_congr (by
      subst hc; subst hc2
      rw [hP]; unfold lf
      rw [bq_mid.1, bq_mid.2, bq_mid.1, bq_mid.2]
      constructor
      · intro z
        have t2 := z.1.2.1 rfl
        have t3 := z.1.2.2.1 rfl
        have t4 := z.1.2.2.2 rfl rfl
        have c2 := hC _ _ _ _ z.1.1 t2 (by unfold adj; omega) z.2
        exact ⟨⟨z.1.1, z.2⟩, ⟨t2, c2⟩, ⟨t3, hC _ _ _ _ z.1.1 t3 (by unfold adj; omega) z.2⟩, t4, hC _ _ _ _ t2 t4 (by unfold adj; omega) c2⟩
      · intro z
        exact ⟨⟨z.1.1, fun _ => z.2.1.1, fun _ => z.2.2.1.1, fun _ _ => z.2.2.2.1⟩, z.1.2⟩)
    have term : ∀ l, sumI (fun k => bI (P (i0 + s * k) (j0 + t * l)) * (uA * (if br t j0 (j0 + t * l) = 1 then vB else vA)) + (if s = 2 then bI (P (i0 + 2 * k + 1) (j0 + t * l)) * (uB * (if br t j0 (j0 + t * l) = 1 then vB else vA)) else 0)) 0 14 + (if t = 2 then sumI (fun k => bI (P (i0 + s * k) (j0 + 2 * l + 1)) * (uA * (if br t j0 (j0 + 2 * l + 1) = 1 then vB else vA)) + (if s = 2 then bI (P (i0 + 2 * k + 1) (j0 + 2 * l + 1)) * (uB * (if br t j0 (j0 + 2 * l + 1) = 1 then vB else vA)) else 0)) 0 14 else 0) = (uA * vA) * sumI (fun k => bI (T k l ∧ C k l)) 0 14 + (uB * vA) * sumI (fun k => bI ((T k l ∧ C k l) ∧ (T (k + 1) l ∧ C (k + 1) l))) 0 14 + ((uA * vB) * sumI (fun k => bI ((T k l ∧ C k l) ∧ (T k (l + 1) ∧ C k (l + 1)))) 0 14 + (uB * vB) * sumI (fun k => bI ((T k l ∧ C k l) ∧ (T (k + 1) l ∧ C (k + 1) l) ∧ (T k (l + 1) ∧ C k (l + 1)) ∧ (T (k + 1) (l + 1) ∧ C (k + 1) (l + 1)))) 0 14) := by
      intro l
      congr 1
      · rw [← sumI_mul, ← sumI_mul, ← sumI_add]
        refine sumI_congr (fun k _ _ => ?_)
        rw [(bq_al ht).2, if_neg (by decide), cA, Int.mul_comm]
        congr 1
        by_cases hc : s = 2
        · rw [if_pos hc, cX hc, Int.mul_comm]
        · rw [if_neg hc, hu (by omega), Int.zero_mul, Int.zero_mul]
      · by_cases hc2 : t = 2
        · rw [if_pos hc2, ← sumI_mul, ← sumI_mul, ← sumI_add]
          refine sumI_congr (fun k _ _ => ?_)
          have e1 : br t j0 (j0 + 2 * l + 1) = 1 := by subst hc2; exact bq_mid.2
          rw [e1, if_pos rfl, cY hc2, Int.mul_comm]
          congr 1
          by_cases hc : s = 2
          · rw [if_pos hc, cB hc hc2, Int.mul_comm]
          · rw [if_neg hc, hu (by omega), Int.zero_mul, Int.zero_mul]
        · rw [if_neg hc2, hv (by omega), Int.mul_zero, Int.mul_zero, Int.zero_mul, Int.zero_mul]; rfl
    rw [sumI_congr (fun l _ _ => term l), sumI_add, sumI_add, sumI_add, sumI_mul, sumI_mul, sumI_mul, sumI_mul]
    have e1 : sumI (fun l => sumI (fun k => bI (T k l ∧ C k l)) 0 14) 0 10 = ct1 (fun k l => T k l ∧ C k l) := rfl
    have e2 : sumI (fun l => sumI (fun k => bI ((T k l ∧ C k l) ∧ (T (k + 1) l ∧ C (k + 1) l))) 0 14) 0 10 = ctX (fun k l => T k l ∧ C k l) := rfl
    have e3 : sumI (fun l => sumI (fun k => bI ((T k l ∧ C k l) ∧ (T k (l + 1) ∧ C k (l + 1)))) 0 14) 0 10 = ctY (fun k l => T k l ∧ C k l) := rfl
    have e4 : sumI (fun l => sumI (fun k => bI ((T k l ∧ C k l) ∧ (T (k + 1) l ∧ C (k + 1) l) ∧ (T k (l + 1) ∧ C k (l + 1)) ∧ (T (k + 1) (l + 1) ∧ C (k + 1) (l + 1)))) 0 14) 0 10 = ctB (fun k l => T k l ∧ C k l) := rfl
    have cst : ((10 : Nat) : Int) = 10 := rfl
    rw [cst, e1, e2, e3, e4]
    grind
  · have hn1 : ¬ P (i0 + s * k) b := fun z => q ⟨(hT _ _ ((hP _ _).mp z).1.1).2.2.1, (hT _ _ ((hP _ _).mp z).1.1).2.2.2, (hr _ _ z).2.2.1, (hr _ _ z).2.2.2⟩
    have hn2 : ¬ P (i0 + 2 * k + 1) b := fun z => q ⟨(hT _ _ ((hP _ _).mp z).1.1).2.2.1, (hT _ _ ((hP _ _).mp z).1.1).2.2.2, (hr _ _ z).2.2.1, (hr _ _ z).2.2.2⟩
    rw [bI_0 hn1, bI_0 hn2, Int.zero_mul, Int.zero_mul]
    split <;> rfl
