/-! lines a q + va p and a q - vb p, in their order -/
def lnV (q p va vb W v : Int) : Prop := ∃ a, 0 ≤ a ∧ a ≤ W ∧ (v = a * q + va * p ∨ v = a * q - vb * p)
theorem q_le {a b q : Int} (hq : 0 ≤ q) (h : a ≤ b) : a * q ≤ b * q := Int.mul_le_mul_of_nonneg_right h hq
theorem q_s (a q : Int) : (a + 1) * q = a * q + q := by rw [Int.add_mul, Int.one_mul]
theorem ln_next {f : Int → Int} {n : Int} {P : Int → Prop} (hs : srt f n) (h1 : ∀ i, 0 ≤ i → i < n → P (f i)) (h2 : ∀ v, P v → ∃ i, 0 ≤ i ∧ i < n ∧ f i = v) {i v v' : Int} (hi : 0 ≤ i ∧ i < n) (e : f i = v) (hv : P v') (hl : v < v') (hno : ∀ u, P u → v < u → v' ≤ u) : i + 1 < n ∧ f (i + 1) = v' := by
  obtain ⟨j, j1, j2, j3⟩ := h2 v' hv
  have hij : i < j := by
    refine Classical.byContradiction fun z => ?_
    by_cases hc : j = i
    · rw [hc] at j3; omega
    · have := srt_lt hs j1 (show j < i by omega) hi.2; omega
  by_cases hc : j = i + 1
  · subst hc; exact ⟨j2, j3⟩
  · have a1 := srt_lt hs hi.1 (show i < i + 1 by omega) (show i + 1 < n by omega)
    have a2 := srt_lt hs (show 0 ≤ i + 1 by omega) (show i + 1 < j by omega) j2
    have := hno _ (h1 (i + 1) (by omega) (by omega)) (by omega)
    omega
/-- how the cells between lines lie -/
def LSt (f : Int → Int) (n q p va vb W m ff s i0 : Int) : Prop :=
  0 ≤ i0 ∧ (s = 1 ∨ s = 2) ∧ (s = 1 → ff = 0) ∧ (s = 2 → 0 < ff) ∧
  (∀ i, 0 ≤ i → i + 1 < n → ((va * p ≤ f i ∧ f (i + 1) ≤ W * q - vb * p) ↔ (0 ≤ bq s i0 i ∧ bq s i0 i + m + br s i0 i < W))) ∧
  (∀ i, 0 ≤ bq s i0 i → bq s i0 i + m + br s i0 i < W → (0 ≤ i ∧ i + 1 < n) ∧ f i = (bq s i0 i) * q + va * p + (if br s i0 i = 1 then q - ff else 0) ∧ f (i + 1) = (bq s i0 i) * q + va * p + (if br s i0 i = 1 then q else q - ff))
theorem ls_st {f : Int → Int} {n q p va vb W m ff : Int} (hs : srt f n) (h1 : ∀ i, 0 ≤ i → i < n → lnV q p va vb W (f i)) (h2 : ∀ v, lnV q p va vb W v → ∃ i, 0 ≤ i ∧ i < n ∧ f i = v) (hq : 0 < q) (hm : 0 ≤ m) (hf : 0 ≤ ff ∧ ff < q) (hW : 0 ≤ W) (e : vb * p + va * p = m * q + ff) : ∃ s i0, LSt f n q p va vb W m ff s i0 := by
  have fam : ∀ a, a * q - vb * p = a * q - m * q - ff + va * p := fun a => by omega
  by_cases hmW : m < W
  · obtain ⟨i0, z1, z2, z3⟩ := h2 (va * p) ⟨0, by omega, hW, Or.inl (by rw [Int.zero_mul, Int.zero_add])⟩
    -- from a line of the first kind to the next one
    have stepA : ∀ k i, 0 ≤ k → k + m < W → 0 ≤ i → i < n → f i = k * q + va * p → i + 1 < n ∧ f (i + 1) = k * q + va * p + (q - ff) := by
      intro k i k1 k2 i1 i2 hi
      refine ln_next hs h1 h2 ⟨i1, i2⟩ hi ⟨k + m + 1, by omega, by omega, Or.inr ?_⟩ (by omega) (fun u hu hl => ?_)
      · rw [fam, q_s, Int.add_mul]; omega
      · obtain ⟨a, a1, a2, a3⟩ := hu
        rcases a3 with a3 | a3
        · by_cases hc : a ≤ k
          · have := q_le (q := q) (by omega) hc; omega
          · have := q_le (q := q) (by omega) (show k + 1 ≤ a by omega)
            rw [q_s] at this; omega
        · rw [fam] at a3
          by_cases hc : a ≤ k + m
          · have := q_le (q := q) (by omega) hc
            rw [Int.add_mul] at this; omega
          · have := q_le (q := q) (by omega) (show k + m + 1 ≤ a by omega)
            rw [q_s, Int.add_mul] at this; omega
    have stepB : ∀ k i, 0 < ff → 0 ≤ k → k + m < W → 0 ≤ i → i < n → f i = k * q + va * p + (q - ff) → i + 1 < n ∧ f (i + 1) = (k + 1) * q + va * p := by
      intro k i hff k1 k2 i1 i2 hi
      have e1 := q_s k q
      refine ln_next hs h1 h2 ⟨i1, i2⟩ hi ⟨k + 1, by omega, by omega, Or.inl rfl⟩ (by omega) (fun u hu hl => ?_)
      obtain ⟨a, a1, a2, a3⟩ := hu
      rcases a3 with a3 | a3
      · by_cases hc : a ≤ k
        · have := q_le (q := q) (by omega) hc; omega
        · have := q_le (q := q) (by omega) (show k + 1 ≤ a by omega); omega
      · rw [fam] at a3
        by_cases hc : a ≤ k + m + 1
        · have := q_le (q := q) (by omega) hc
          rw [q_s, Int.add_mul] at this; omega
        · have := q_le (q := q) (by omega) (show k + m + 1 + 1 ≤ a by omega)
          rw [q_s, q_s, Int.add_mul] at this; omega
    obtain ⟨s, hs1, hs2, hs3⟩ : ∃ s : Int, (s = 1 ∨ s = 2) ∧ (s = 1 → ff = 0) ∧ (s = 2 → 0 < ff) := by
      by_cases hc : ff = 0
      · exact ⟨1, Or.inl rfl, fun _ => hc, fun z => absurd z (by decide)⟩
      · exact ⟨2, Or.inr rfl, fun z => absurd z (by decide), fun _ => by omega⟩
    have base : ∀ k : Nat, (k : Int) + m < W → i0 + s * k < n ∧ f (i0 + s * k) = k * q + va * p := by
      intro k
      induction k with
      | zero => intro _; rw [show i0 + s * ((0 : Nat) : Int) = i0 by simp]; exact ⟨z2, by simp [z3]⟩
      | succ k ih =>
        intro hk
        obtain ⟨b1, b2⟩ := ih (by omega)
        have hsk : 0 ≤ s * (k : Int) := Int.mul_nonneg (by omega) (by omega)
        obtain ⟨c1, c2⟩ := stepA k _ (by omega) (by omega) (by omega) b1 b2
        rcases hs1 with rfl | rfl
        · have h0 := hs2 rfl
          rw [show i0 + 1 * ((k + 1 : Nat) : Int) = i0 + 1 * (k : Int) + 1 by omega]
          refine ⟨c1, ?_⟩
          rw [c2, show ((k + 1 : Nat) : Int) = (k : Int) + 1 by omega, q_s]
          omega
        · have h0 := hs3 rfl
          obtain ⟨d1, d2⟩ := stepB k _ h0 (by omega) (by omega) (by omega) c1 c2
          rw [show i0 + 2 * ((k + 1 : Nat) : Int) = i0 + 2 * (k : Int) + 1 + 1 by omega]
          exact ⟨d1, by rw [d2, show ((k + 1 : Nat) : Int) = (k : Int) + 1 by omega]⟩
    have baseI : ∀ k : Int, 0 ≤ k → k + m < W → (0 ≤ i0 + s * k ∧ i0 + s * k + 1 < n) ∧ f (i0 + s * k) = k * q + va * p ∧ f (i0 + s * k + 1) = k * q + va * p + (q - ff) := by
      intro k k1 k2
      have hb := base k.toNat (by omega)
      rw [show ((k.toNat : Nat) : Int) = k by omega] at hb
      have hsk : 0 ≤ s * k := Int.mul_nonneg (by omega) k1
      obtain ⟨c1, c2⟩ := stepA k _ k1 k2 (by omega) hb.1 hb.2
      exact ⟨⟨by omega, c1⟩, hb.2, c2⟩
    -- the last one
    obtain ⟨t1, t2, t3⟩ := baseI (W - m - 1) (by omega) (by omega)
    have etop : (W - m - 1) * q + va * p + (q - ff) = W * q - vb * p := by
      rw [fam, Int.sub_mul, Int.sub_mul]; omega
    rw [etop] at t3
    refine ⟨s, i0, z1, hs1, hs2, hs3, fun i i1 i2 => ?_, fun i g1 g2 => ?_⟩
    · obtain ⟨x1, x2⟩ := bq_eq (o := i0) (i := i) hs1
      constructor
      · rintro ⟨a1, a2⟩
        have hi : i0 ≤ i := by
          refine Classical.byContradiction fun z => ?_
          have := srt_lt hs i1 (show i < i0 by omega) z2; omega
        have hk : 0 ≤ bq s i0 i := by
          refine Classical.byContradiction fun z => ?_
          have := (bq_lt (s := s) (o := i0) (i := i) (k := 0) hs1).mpr (by omega)
          rw [Int.mul_zero] at this; omega
        refine ⟨hk, Classical.byContradiction fun z => ?_⟩
        have ht : i0 + s * (W - m - 1) + 1 < i + 1 := by
          rcases hs1 with rfl | rfl <;> omega
        have := srt_lt hs (by omega) ht i2; omega
      · rintro ⟨a1, a2⟩
        have hsk : 0 ≤ s * bq s i0 i := Int.mul_nonneg (by omega) a1
        refine ⟨?_, ?_⟩
        · by_cases hc : i = i0
          · rw [hc]; omega
          · have := srt_lt hs z1 (show i0 < i by omega) (by omega); omega
        · have ht : i + 1 ≤ i0 + s * (W - m - 1) + 1 := by
            rcases hs1 with rfl | rfl <;> omega
          by_cases hc : i + 1 = i0 + s * (W - m - 1) + 1
          · rw [hc]; omega
          · have := srt_lt hs (show 0 ≤ i + 1 by omega) (show i + 1 < i0 + s * (W - m - 1) + 1 by omega) t1.2; omega
    · obtain ⟨x1, x2⟩ := bq_eq (o := i0) (i := i) hs1
      rcases x2 with x2 | x2
      · have hb := baseI (bq s i0 i) g1 (by omega)
        rw [show i0 + s * bq s i0 i = i by omega] at hb
        rw [if_neg (by omega), if_neg (by omega), Int.add_zero]
        exact ⟨hb.1, hb.2⟩
      · obtain ⟨rfl, x3⟩ := x2
        have h0 := hs3 rfl
        have hb := baseI (bq 2 i0 i) g1 (by omega)
        obtain ⟨d1, d2⟩ := stepB (bq 2 i0 i) _ h0 g1 (by omega) (by omega) hb.1.2 hb.2.2
        rw [show i0 + 2 * bq 2 i0 i + 1 = i by omega] at hb d1 d2
        rw [if_pos x3, if_pos x3]
        refine ⟨⟨by omega, d1⟩, hb.2.2, ?_⟩
        rw [d2, q_s]; omega
  · obtain ⟨s, hs1, hs2, hs3⟩ : ∃ s : Int, (s = 1 ∨ s = 2) ∧ (s = 1 → ff = 0) ∧ (s = 2 → 0 < ff) := by
      by_cases hc : ff = 0
      · exact ⟨1, Or.inl rfl, fun _ => hc, fun z => absurd z (by decide)⟩
      · exact ⟨2, Or.inr rfl, fun z => absurd z (by decide), fun _ => by omega⟩
    refine ⟨s, 0, by omega, hs1, hs2, hs3, fun i i1 i2 => ?_, fun i g1 g2 => ?_⟩
    · obtain ⟨x1, x2⟩ := bq_eq (o := 0) (i := i) hs1
      constructor
      · rintro ⟨a1, a2⟩
        have := srt_lt hs i1 (show i < i + 1 by omega) i2
        have hh := q_le (q := q) (by omega) (show W ≤ m by omega)
        rw [fam] at a2
        omega
      · rintro ⟨a1, a2⟩; omega
    · obtain ⟨x1, x2⟩ := bq_eq (o := 0) (i := i) hs1
      omega
/-- of which columns the window of a cell between lines is -/
theorem ls_col {f : Int → Int} {n q p va vb W m ff s i0 : Int} (h : LSt f n q p va vb W m ff s i0) (hq : 0 < q) (hf : 0 ≤ ff ∧ ff < q) (e : vb * p + va * p = m * q + ff) {i : Int} (g1 : 0 ≤ bq s i0 i) (g2 : bq s i0 i + m + br s i0 i < W) (x : Int) :
    ((2 * (x * q - vb * p) < f i + f (i + 1) ∧ f i + f (i + 1) < 2 * ((x + 1) * q + va * p)) ↔ (bq s i0 i ≤ x ∧ x ≤ bq s i0 i + m + br s i0 i)) ∧ ((¬ f i + f (i + 1) < 2 * (x * q - vb * p) ∧ ¬ 2 * ((x + 1) * q + va * p) < f i + f (i + 1)) ↔ (bq s i0 i ≤ x ∧ x ≤ bq s i0 i + m + br s i0 i)) := by
  obtain ⟨h0, h1, h2, h3, h4, h5⟩ := h
  obtain ⟨k1, k2, k3⟩ := h5 i g1 g2
  obtain ⟨x1, x2⟩ := bq_eq (o := i0) (i := i) h1
  rw [k2, k3, q_s]
  generalize bq s i0 i = k at *
  have lo : x < k → x * q + q ≤ k * q := fun z => by
    have := q_le (q := q) (by omega) (show x + 1 ≤ k by omega)
    rw [q_s] at this; exact this
  have lo' : k ≤ x → k * q ≤ x * q := fun z => q_le (by omega) z
  rcases x2 with x2 | x2
  · rw [x2, if_neg (by decide), if_neg (by decide)]
    have hi : x ≤ k + m → x * q ≤ k * q + m * q := fun z => by
      have := q_le (q := q) (by omega) z
      rw [Int.add_mul] at this; exact this
    have hi' : k + m < x → k * q + m * q + q ≤ x * q := fun z => by
      have := q_le (q := q) (by omega) (show k + m + 1 ≤ x by omega)
      rw [q_s, Int.add_mul] at this; exact this
    omega
  · have h33 := h3 x2.1
    rw [x2.2, if_pos rfl, if_pos rfl]
    have hi : x ≤ k + m + 1 → x * q ≤ k * q + m * q + q := fun z => by
      have := q_le (q := q) (by omega) z
      rw [q_s, Int.add_mul] at this; exact this
    have hi' : k + m + 1 < x → k * q + m * q + q + q ≤ x * q := fun z => by
      have := q_le (q := q) (by omega) (show k + m + 1 + 1 ≤ x by omega)
      rw [q_s, q_s, Int.add_mul] at this; exact this
    omega
