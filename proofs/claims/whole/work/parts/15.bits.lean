/-! bits of small numbers -/
def bitv (n x : Int) : Int := n / 2 ^ x.toNat % 2
theorem bitv_01 (n x : Int) : bitv n x = 0 ∨ bitv n x = 1 := by unfold bitv; omega
theorem bitv_bt {n x : Int} (hn : 0 ≤ n) : bitv n x = if n.toNat.testBit x.toNat then 1 else 0 := by
  have h := bt_iff (n := n) (x := x) hn
  unfold bt at h
  have h01 := bitv_01 n x
  unfold bitv at *
  by_cases hb : n.toNat.testBit x.toNat = true
  · rw [if_pos hb]; exact h.mpr hb
  · rw [if_neg hb]
    rcases h01 with h0 | h1
    · exact h0
    · exact absurd (h.mp h1) hb
theorem bitv_and {a b x : Int} (ha : 0 ≤ a ∧ a < 2147483648) (hb : 0 ≤ b ∧ b < 2147483648) : bitv (eAnd a b) x = bitv a x * bitv b x := by
  rw [eAnd_nat ha hb, bitv_bt (by omega), bitv_bt ha.1, bitv_bt hb.1]
  simp only [Int.toNat_natCast, Nat.testBit_and, Bool.and_eq_true]
  by_cases h1 : a.toNat.testBit x.toNat = true <;> by_cases h2 : b.toNat.testBit x.toNat = true <;> simp [h1, h2]
theorem bitv_or {a b x : Int} (ha : 0 ≤ a ∧ a < 2147483648) (hb : 0 ≤ b ∧ b < 2147483648) : bitv (eOr a b) x = if bitv a x = 1 ∨ bitv b x = 1 then 1 else 0 := by
  rw [eOr_nat ha hb, bitv_bt (by omega), bitv_bt ha.1, bitv_bt hb.1]
  simp only [Int.toNat_natCast, Nat.testBit_or, Bool.or_eq_true]
  by_cases h1 : a.toNat.testBit x.toNat = true <;> by_cases h2 : b.toNat.testBit x.toNat = true <;> simp [h1, h2]
theorem bitv_xor {a b x : Int} (ha : 0 ≤ a ∧ a < 2147483648) (hb : 0 ≤ b ∧ b < 2147483648) : bitv (eXor a b) x = if bitv a x = bitv b x then 0 else 1 := by
  rw [eXor_nat ha hb, bitv_bt (by omega), bitv_bt ha.1, bitv_bt hb.1]
  simp only [Int.toNat_natCast, Nat.testBit_xor]
  by_cases h1 : a.toNat.testBit x.toNat = true <;> by_cases h2 : b.toNat.testBit x.toNat = true <;> simp [h1, h2]
theorem eAnd_le {a b : Int} (ha : 0 ≤ a ∧ a < 2147483648) (hb : 0 ≤ b ∧ b < 2147483648) : 0 ≤ eAnd a b ∧ eAnd a b ≤ a ∧ eAnd a b ≤ b := by
  rw [eAnd_nat ha hb]
  have h1 : a.toNat &&& b.toNat ≤ a.toNat := Nat.and_le_left
  have h2 : a.toNat &&& b.toNat ≤ b.toNat := Nat.and_le_right
  omega
theorem eOr_lt {a b : Int} (k : Nat) (hk : k ≤ 31) (ha : 0 ≤ a ∧ a < 2 ^ k) (hb : 0 ≤ b ∧ b < 2 ^ k) : 0 ≤ eOr a b ∧ eOr a b < 2 ^ k := by
  have hp : (2 : Int) ^ k ≤ 2 ^ 31 := by
    have := Nat.pow_le_pow_right (n := 2) (by decide) hk
    have e1 : (2 : Int) ^ k = ((2 ^ k : Nat) : Int) := by rw [Int.natCast_pow]; rfl
    rw [e1]
    omega
  have e1 : (2 : Int) ^ k = ((2 ^ k : Nat) : Int) := by rw [Int.natCast_pow]; rfl
  rw [eOr_nat ⟨ha.1, by omega⟩ ⟨hb.1, by omega⟩]
  have := Nat.or_lt_two_pow (x := a.toNat) (y := b.toNat) (n := k) (by omega) (by omega)
  omega
theorem eXor_lt {a b : Int} (k : Nat) (hk : k ≤ 31) (ha : 0 ≤ a ∧ a < 2 ^ k) (hb : 0 ≤ b ∧ b < 2 ^ k) : 0 ≤ eXor a b ∧ eXor a b < 2 ^ k := by
  have hp : (2 : Int) ^ k ≤ 2 ^ 31 := by
    have := Nat.pow_le_pow_right (n := 2) (by decide) hk
    have e1 : (2 : Int) ^ k = ((2 ^ k : Nat) : Int) := by rw [Int.natCast_pow]; rfl
    rw [e1]
    omega
  have e1 : (2 : Int) ^ k = ((2 ^ k : Nat) : Int) := by rw [Int.natCast_pow]; rfl
  rw [eXor_nat ⟨ha.1, by omega⟩ ⟨hb.1, by omega⟩]
  have := Nat.xor_lt_two_pow (x := a.toNat) (y := b.toNat) (n := k) (by omega) (by omega)
  omega
theorem e_two (k : Nat) : (2 : Int) ^ k = ((2 ^ k : Nat) : Int) := by rw [Int.natCast_pow]; rfl
theorem bitv_shl {a : Int} (ha : 0 ≤ a) {k x : Int} (hk : 0 ≤ k) (hx : 0 ≤ x) : bitv (a * 2 ^ k.toNat) x = if x < k then 0 else bitv a (x - k) := by
  obtain ⟨n, rfl⟩ := Int.eq_ofNat_of_zero_le ha
  have e : (n : Int) * 2 ^ k.toNat = ((n <<< k.toNat : Nat) : Int) := by rw [Nat.shiftLeft_eq, Int.natCast_mul, e_two]
  rw [e, bitv_bt (Int.natCast_nonneg _), bitv_bt (Int.natCast_nonneg _)]
  simp only [Int.toNat_natCast, Nat.testBit_shiftLeft]
  by_cases h : x < k
  · rw [if_pos h]
    have : ¬ (x.toNat ≥ k.toNat) := by omega
    simp [this]
  · rw [if_neg h]
    have h1 : x.toNat ≥ k.toNat := by omega
    have h2 : (x - k).toNat = x.toNat - k.toNat := by omega
    simp [h1, h2]
theorem bitv_shr {a : Int} (ha : 0 ≤ a) {k x : Int} (hk : 0 ≤ k) (hx : 0 ≤ x) : bitv (a / 2 ^ k.toNat) x = bitv a (x + k) := by
  obtain ⟨n, rfl⟩ := Int.eq_ofNat_of_zero_le ha
  have e : (n : Int) / 2 ^ k.toNat = ((n >>> k.toNat : Nat) : Int) := by rw [Nat.shiftRight_eq_div_pow]; exact e_divN n k.toNat
  rw [e, bitv_bt (Int.natCast_nonneg _), bitv_bt (Int.natCast_nonneg _)]
  simp only [Int.toNat_natCast, Nat.testBit_shiftRight]
  rw [show (x + k).toNat = k.toNat + x.toNat by omega]
theorem bitv_pow {k x : Int} (hk : 0 ≤ k) (hx : 0 ≤ x) : bitv (2 ^ k.toNat) x = if x = k then 1 else 0 := by
  rw [show (2 : Int) ^ k.toNat = 1 * 2 ^ k.toNat by rw [Int.one_mul], bitv_shl (by decide) hk hx]
  by_cases h : x < k
  · rw [if_pos h, if_neg (by omega)]
  · rw [if_neg h]
    by_cases h2 : x = k
    · rw [if_pos h2, h2, Int.sub_self]; rfl
    · rw [if_neg h2]
      unfold bitv
      have : (1 : Int) / 2 ^ (x - k).toNat = 0 := by
        apply Int.ediv_eq_zero_of_lt (by decide)
        have : (x - k).toNat ≠ 0 := by omega
        have h3 : 1 < 2 ^ (x - k).toNat := Nat.one_lt_two_pow this
        rw [e_two]
        omega
      rw [this]
      rfl
/-- beyond its width a number has no bits -/
theorem bitv_big {n x : Int} {k : Nat} (hn : 0 ≤ n ∧ n < 2 ^ k) (hx : (k : Int) ≤ x) : bitv n x = 0 := by
  unfold bitv
  have : n / 2 ^ x.toNat = 0 := by
    apply Int.ediv_eq_zero_of_lt hn.1
    have h1 : (2 : Nat) ^ k ≤ 2 ^ x.toNat := Nat.pow_le_pow_right (by decide) (by omega)
    have h2 := hn.2
    rw [e_two] at h2 ⊢
    omega
  rw [this]
  rfl
/-- two numbers with the same bits -/
theorem bitv_ext {a b : Int} {k : Nat} (ha : 0 ≤ a ∧ a < 2 ^ k) (hb : 0 ≤ b ∧ b < 2 ^ k) (h : ∀ x : Int, 0 ≤ x → x < k → bitv a x = bitv b x) : a = b := by
  have hall : ∀ i : Nat, a.toNat.testBit i = b.toNat.testBit i := by
    intro i
    have h1 : bitv a i = bitv b i := by
      by_cases hi : (i : Int) < k
      · exact h i (by omega) hi
      · rw [bitv_big ha (by omega), bitv_big hb (by omega)]
    rw [bitv_bt ha.1, bitv_bt hb.1] at h1
    simp only [Int.toNat_natCast] at h1
    by_cases p : a.toNat.testBit i = true <;> by_cases q : b.toNat.testBit i = true <;> simp_all
  have := Nat.eq_of_testBit_eq hall
  omega
/-- a number whose bits end is small -/
theorem bitv_lt {a : Int} {k K : Nat} (ha : 0 ≤ a ∧ a < 2 ^ K) (h : ∀ x : Int, (k : Int) ≤ x → x < K → bitv a x = 0) : a < 2 ^ k := by
  have hb : a.toNat < 2 ^ k := by
    apply Nat.lt_pow_two_of_testBit
    intro i hi
    have h1 : bitv a i = 0 := by
      by_cases hK : (i : Int) < K
      · exact h i (by omega) hK
      · exact bitv_big ha (by omega)
    rw [bitv_bt ha.1] at h1
    simp only [Int.toNat_natCast] at h1
    cases hc : a.toNat.testBit i
    · rfl
    · simp [hc] at h1
  rw [e_two]
  omega
