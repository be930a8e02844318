/-! small numbers, loops, sums -/
theorem pI0 {P : Prop} [Decidable P] (h : ¬ P) : (if P then (1 : Int) else 0) = 0 := if_neg h
theorem pI1 {P : Prop} [Decidable P] (h : P) : ¬ (if P then (1 : Int) else 0) = 0 := by rw [if_pos h]; decide
theorem eI_pI (P : Prop) [Decidable P] : eI (if P then (1 : Int) else 0) := by split <;> decide
theorem pI_or (P : Prop) [Decidable P] : (if P then (1 : Int) else 0) = 0 ∨ (if P then (1 : Int) else 0) = 1 := by split <;> simp
/-- a loop upwards, from its end -/
theorem loop_up {P : Int → Prop} (a N : Int) (h0 : P N) (hs : ∀ k : Int, a ≤ k → k < N → P (k + 1) → P k) : ∀ k : Int, a ≤ k → k ≤ N → P k := by
  have key : ∀ (n : Nat) (k : Int), a ≤ k → k ≤ N → (N - k).toNat = n → P k := by
    intro n
    induction n with
    | zero =>
      intro k h1 h2 h3
      have : k = N := by omega
      subst this
      exact h0
    | succ n ih =>
      intro k h1 h2 h3
      exact hs k h1 (by omega) (ih (k + 1) (by omega) (by omega) (by omega))
  intro k h1 h2
  exact key _ k h1 h2 rfl
/-- the sum of f over a .. b - 1 -/
def sumN (f : Int → Int) (a : Int) : Nat → Int
  | 0 => 0
  | n + 1 => sumN f a n + f (a + n)
def sumI (f : Int → Int) (a b : Int) : Int := sumN f a (b - a).toNat
theorem sumI_self (f : Int → Int) (a : Int) : sumI f a a = 0 := by simp [sumI, sumN]
theorem sumI_succ (f : Int → Int) {a b : Int} (h : a ≤ b) : sumI f a (b + 1) = sumI f a b + f b := by
  unfold sumI
  rw [show (b + 1 - a).toNat = (b - a).toNat + 1 by omega, sumN]
  congr 2
  omega
theorem sumI_congr {f g : Int → Int} {a b : Int} (h : ∀ i, a ≤ i → i < b → f i = g i) : sumI f a b = sumI g a b := by
  unfold sumI
  have : ∀ n : Nat, a + n ≤ b ∨ n = 0 → sumN f a n = sumN g a n := by
    intro n
    induction n with
    | zero => intro _; rfl
    | succ n ih =>
      intro hn
      have hb : a + (n + 1 : Nat) ≤ b := by omega
      rw [sumN, sumN, ih (Or.inl (by omega)), h (a + n) (by omega) (by omega)]
  by_cases hb : a ≤ b
  · exact this _ (Or.inl (by omega))
  · exact this _ (Or.inr (by omega))
theorem sumI_bound {f : Int → Int} {a b lo hi : Int} (hab : a ≤ b) (h : ∀ i, a ≤ i → i < b → lo ≤ f i ∧ f i ≤ hi) : (b - a) * lo ≤ sumI f a b ∧ sumI f a b ≤ (b - a) * hi := by
  revert h
  have key : ∀ n : Nat, (∀ i, a ≤ i → i < a + n → lo ≤ f i ∧ f i ≤ hi) → (n : Int) * lo ≤ sumN f a n ∧ sumN f a n ≤ (n : Int) * hi := by
    intro n
    induction n with
    | zero => intro _; simp [sumN]
    | succ n ih =>
      intro h
      obtain ⟨h1, h2⟩ := ih (fun i g1 g2 => h i g1 (by omega))
      obtain ⟨h3, h4⟩ := h (a + n) (by omega) (by omega)
      rw [sumN, show ((n + 1 : Nat) : Int) * lo = (n : Int) * lo + lo by rw [Int.natCast_add, Int.add_mul]; simp, show ((n + 1 : Nat) : Int) * hi = (n : Int) * hi + hi by rw [Int.natCast_add, Int.add_mul]; simp]
      omega
  intro h
  have := key (b - a).toNat (fun i g1 g2 => h i g1 (by omega))
  rw [Int.toNat_of_nonneg (by omega)] at this
  exact this
theorem sumI_split (f : Int → Int) {a b c : Int} (h1 : a ≤ b) (h2 : b ≤ c) : sumI f a c = sumI f a b + sumI f b c := by
  have key : ∀ n : Nat, sumI f a (b + n) = sumI f a b + sumI f b (b + n) := by
    intro n
    induction n with
    | zero => simp [sumI_self]
    | succ n ih =>
      rw [show b + ((n + 1 : Nat) : Int) = b + n + 1 by omega, sumI_succ f (by omega), sumI_succ f (show b ≤ b + (n : Int) by omega), ih]
      omega
  have := key (c - b).toNat
  rw [show b + ((c - b).toNat : Int) = c by omega] at this
  exact this
/-! bits -/
theorem e_toNat {a : Int} (h0 : 0 ≤ a) (h1 : a < 4294967296) : (Int32.ofInt a).toBitVec.toNat = a.toNat := by
  rw [Int32.toBitVec_ofInt, BitVec.toNat_ofInt]
  congr 1
  exact Int.emod_eq_of_lt h0 (by simpa using h1)
theorem e_ofBits {x : Int32} (h : x.toBitVec.toNat < 2147483648) : x.toInt = (x.toBitVec.toNat : Int) := BitVec.toInt_eq_toNat_of_lt (by omega)
theorem eAnd_nat {a b : Int} (ha : 0 ≤ a ∧ a < 2147483648) (hb : 0 ≤ b ∧ b < 2147483648) : eAnd a b = ((a.toNat &&& b.toNat : Nat) : Int) := by
  unfold eAnd
  have e : (Int32.ofInt a &&& Int32.ofInt b).toBitVec.toNat = a.toNat &&& b.toNat := by
    rw [Int32.toBitVec_and, BitVec.toNat_and, e_toNat ha.1 (by omega), e_toNat hb.1 (by omega)]
  have hl : a.toNat &&& b.toNat ≤ a.toNat := Nat.and_le_left
  rw [e_ofBits (by rw [e]; omega), e]
theorem eOr_nat {a b : Int} (ha : 0 ≤ a ∧ a < 2147483648) (hb : 0 ≤ b ∧ b < 2147483648) : eOr a b = ((a.toNat ||| b.toNat : Nat) : Int) := by
  unfold eOr
  have e : (Int32.ofInt a ||| Int32.ofInt b).toBitVec.toNat = a.toNat ||| b.toNat := by
    rw [Int32.toBitVec_or, BitVec.toNat_or, e_toNat ha.1 (by omega), e_toNat hb.1 (by omega)]
  have hl : a.toNat ||| b.toNat < 2 ^ 31 := Nat.or_lt_two_pow (by omega) (by omega)
  rw [e_ofBits (by rw [e]; omega), e]
theorem eXor_nat {a b : Int} (ha : 0 ≤ a ∧ a < 2147483648) (hb : 0 ≤ b ∧ b < 2147483648) : eXor a b = ((a.toNat ^^^ b.toNat : Nat) : Int) := by
  unfold eXor
  have e : (Int32.ofInt a ^^^ Int32.ofInt b).toBitVec.toNat = a.toNat ^^^ b.toNat := by
    rw [Int32.toBitVec_xor, BitVec.toNat_xor, e_toNat ha.1 (by omega), e_toNat hb.1 (by omega)]
  have hl : a.toNat ^^^ b.toNat < 2 ^ 31 := Nat.xor_lt_two_pow (by omega) (by omega)
  rw [e_ofBits (by rw [e]; omega), e]
/-- bit x of n -/
def bt (n x : Int) : Prop := n.toNat.testBit x.toNat = true
theorem eAnd_1 {a : Int} (ha : 0 ≤ a ∧ a < 2147483648) : eAnd a 1 = a % 2 := by
  rw [eAnd_nat ha (by decide), show (1 : Int).toNat = 1 from rfl, Nat.and_one_is_mod]
  omega
theorem bt_iff {n x : Int} (hn : 0 ≤ n) : (n / 2 ^ x.toNat % 2 = 1) ↔ bt n x := by
  unfold bt
  obtain ⟨m, rfl⟩ := Int.eq_ofNat_of_zero_le hn
  rw [Nat.testBit_eq_decide_div_mod_eq]
  simp only [Int.toNat_natCast, decide_eq_true_eq]
  have : ((m : Int) / 2 ^ x.toNat) = ((m / 2 ^ x.toNat : Nat) : Int) := by rw [Int.natCast_ediv, Int.natCast_pow]; rfl
  rw [this]
  omega
