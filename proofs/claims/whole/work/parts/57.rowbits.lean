/-! rows of 14 bits -/
theorem hb_bitv {n x : Int} : hb14 n x ↔ 0 ≤ x ∧ x < 14 ∧ bitv n x = 1 := Iff.rfl
theorem hb_big {n x : Int} (hn : 0 ≤ n ∧ n < 16384) (hx : 0 ≤ x) (h : bitv n x = 1) : x < 14 := by
  refine Classical.byContradiction fun z => ?_
  have := bitv_big (n := n) (x := x) (k := 14) (by rw [show (2 : Int) ^ 14 = 16384 from rfl]; exact hn) (by omega)
  omega
theorem hb_and {a b : Int} (ha : 0 ≤ a ∧ a < 16384) (hb : 0 ≤ b ∧ b < 16384) : (0 ≤ eAnd a b ∧ eAnd a b < 16384) ∧ ∀ i, hb14 (eAnd a b) i ↔ (hb14 a i ∧ hb14 b i) := by
  refine ⟨bc_and ha, fun i => ?_⟩
  rw [hb_bitv, hb_bitv, hb_bitv, bitv_and (by omega) (by omega)]
  rcases bitv_01 a i with e1 | e1 <;> rcases bitv_01 b i with e2 | e2 <;> rw [e1, e2] <;> omega
theorem hb_shr {a k : Int} (ha : 0 ≤ a ∧ a < 16384) (hk : 0 ≤ k) : (0 ≤ a / 2 ^ k.toNat ∧ a / 2 ^ k.toNat < 16384) ∧ ∀ i, hb14 (a / 2 ^ k.toNat) i ↔ (0 ≤ i ∧ hb14 a (i + k)) := by
  have hp : (0 : Int) < 2 ^ k.toNat := Int.pow_pos (by decide)
  refine ⟨⟨Int.ediv_nonneg ha.1 (by omega), Int.lt_of_le_of_lt (Int.ediv_le_self _ ha.1) ha.2⟩, fun i => ?_⟩
  rw [hb_bitv, hb_bitv]
  constructor
  · rintro ⟨h1, h2, h3⟩
    rw [bitv_shr ha.1 hk h1] at h3
    exact ⟨h1, by omega, hb_big ha (by omega) h3, h3⟩
  · rintro ⟨h1, h2, h3, h4⟩
    refine ⟨h1, by omega, ?_⟩
    rw [bitv_shr ha.1 hk h1]
    exact h4
theorem hb_no0 (i : Int) : ¬ hb14 0 i := by
  intro h
  have := h.2.2
  rw [Int.zero_ediv] at this
  exact absurd this (by decide)
theorem hb_ext {a b : Int} (ha : 0 ≤ a ∧ a < 16384) (hb : 0 ≤ b ∧ b < 16384) (h : ∀ i, hb14 a i ↔ hb14 b i) : a = b := by
  refine bitv_ext (k := 14) (by rw [show (2 : Int) ^ 14 = 16384 from rfl]; exact ha) (by rw [show (2 : Int) ^ 14 = 16384 from rfl]; exact hb) (fun x h1 h2 => ?_)
  have e := h x
  rw [hb_bitv, hb_bitv] at e
  rcases bitv_01 a x with e1 | e1 <;> rcases bitv_01 b x with e2 | e2 <;> rw [e1, e2] at e ⊢ <;> omega
theorem hb_ne {a : Int} (ha : 0 ≤ a ∧ a < 16384) : ¬ a = 0 ↔ ∃ x, hb14 a x := by
  constructor
  · intro h
    refine Classical.byContradiction fun z => h (hb_ext ha (by omega) (fun i => ⟨fun q => absurd ⟨i, q⟩ z, fun q => absurd q (hb_no0 i)⟩))
  · rintro ⟨x, hx⟩ rfl
    exact hb_no0 x hx
/-- the cells beside those of a row, and those above and below them, within f -/
theorem hb_near {t a b f : Int} (ht : 0 ≤ t ∧ t < 16384) (ha : 0 ≤ a ∧ a < 16384) (hb : 0 ≤ b ∧ b < 16384) (hf : 0 ≤ f ∧ f < 16384) :
    (0 ≤ eAnd (eOr (eOr (eOr (eOr t (t * 2 ^ (1 : Int).toNat)) (t / 2 ^ (1 : Int).toNat)) a) b) f ∧ eAnd (eOr (eOr (eOr (eOr t (t * 2 ^ (1 : Int).toNat)) (t / 2 ^ (1 : Int).toNat)) a) b) f < 16384) ∧ ∀ i, hb14 (eAnd (eOr (eOr (eOr (eOr t (t * 2 ^ (1 : Int).toNat)) (t / 2 ^ (1 : Int).toNat)) a) b) f) i ↔ (hb14 f i ∧ (hb14 t i ∨ hb14 t (i - 1) ∨ hb14 t (i + 1) ∨ hb14 a i ∨ hb14 b i)) := by
  have e15 : (2 : Int) ^ 15 = 32768 := rfl
  have s1 : t * 2 ^ (1 : Int).toNat = t * 2 := rfl
  have h1 := eOr_lt (a := t) (b := t * 2 ^ (1 : Int).toNat) 15 (by decide) (by rw [e15]; omega) (by rw [e15, s1]; omega)
  have q0 := hb_shr (a := t) (k := 1) ht (by decide)
  have h2 := eOr_lt (b := t / 2 ^ (1 : Int).toNat) 15 (by decide) h1 (by rw [e15]; have := q0.1; omega)
  have h3 := eOr_lt (b := a) 15 (by decide) h2 (by rw [e15]; omega)
  have h4 := eOr_lt (b := b) 15 (by decide) h3 (by rw [e15]; omega)
  rw [e15] at h1 h2 h3 h4
  have h5 := eAnd_le (a := eOr (eOr (eOr (eOr t (t * 2 ^ (1 : Int).toNat)) (t / 2 ^ (1 : Int).toNat)) a) b) (b := f) (by omega) (by omega)
  refine ⟨by omega, fun i => ?_⟩
  by_cases hi : 0 ≤ i ∧ i < 14
  · have q1 := q0.2 i
    rw [hb_bitv, hb_bitv] at q1
    rw [hb_bitv, hb_bitv, hb_bitv, hb_bitv, hb_bitv, hb_bitv, hb_bitv, bitv_and (by omega) (by omega), bitv_or (by omega) (by omega), bitv_or (by omega) (by omega), bitv_or (by have := q0.1; omega) (by have := q0.1; omega), bitv_or (by omega) (by rw [s1]; omega), bitv_shl ht.1 (by decide) hi.1]
    have hm : (if i < 1 then 0 else bitv t (i - 1)) = 1 ↔ (0 ≤ i - 1 ∧ i - 1 < 14 ∧ bitv t (i - 1) = 1) := by
      by_cases hc : i < 1
      · rw [if_pos hc]; omega
      · rw [if_neg hc]; omega
    have hbit : bitv f i = 0 ∨ bitv f i = 1 := bitv_01 f i
    generalize hX : (if i < 1 then 0 else bitv t (i - 1)) = X at hm ⊢
    generalize bitv t (i - 1) = tm at hm ⊢
    generalize bitv (t / 2 ^ (1 : Int).toNat) i = th at q1 ⊢
    generalize bitv t (i + 1) = tp at q1 ⊢
    generalize bitv t i = t0
    generalize bitv a i = a0
    generalize bitv b i = b0
    generalize bitv f i = f0 at hbit ⊢
    by_cases p1 : t0 = 1 ∨ X = 1
    · rw [if_pos p1, if_pos (Or.inl (by rw [if_pos (Or.inl (by rw [if_pos (Or.inl rfl)]))]))]; omega
    · rw [if_neg p1]
      by_cases p2 : th = 1
      · rw [if_pos (Or.inl (by rw [if_pos (Or.inl (by rw [if_pos (Or.inr p2)]))]))]; omega
      · rw [if_neg (show ¬ ((0 : Int) = 1 ∨ th = 1) by omega)]
        by_cases p3 : a0 = 1
        · rw [if_pos (Or.inl (by rw [if_pos (Or.inr p3)]))]; omega
        · rw [if_neg (show ¬ ((0 : Int) = 1 ∨ a0 = 1) by omega)]
          by_cases p4 : b0 = 1
          · rw [if_pos (Or.inr p4)]; omega
          · rw [if_neg (show ¬ ((0 : Int) = 1 ∨ b0 = 1) by omega)]; omega
  · constructor
    · intro z; exact absurd ⟨z.1, z.2.1⟩ hi
    · intro z; exact absurd ⟨z.1.1, z.1.2.1⟩ hi
theorem lowtab : ((List.range 16384).all fun n => n == 0 || (List.range 14).any fun i => (n &&& (4294967296 - n)) == 2 ^ i && (n % 2 ^ i == 0 && n / 2 ^ i % 2 == 1)) = true := by decide +kernel
theorem bit_mod {n : Nat} {i x : Nat} (h : n % 2 ^ x = 0) (hi : i < x) : n.testBit i = false := by
  have := Nat.testBit_mod_two_pow n x i
  rw [h, Nat.zero_testBit] at this
  simpa [hi] using this.symm
/-- the lowest bit of a row -/
theorem hb_low {n : Int} (hn : 0 ≤ n ∧ n < 16384) (h0 : ¬ n = 0) : ∃ x, hb14 n x ∧ (∀ i, hb14 n i → x ≤ i) ∧ (0 ≤ eAnd n (-n) ∧ eAnd n (-n) < 16384) ∧ ∀ i, hb14 (eAnd n (-n)) i ↔ i = x := by
  have ht := List.all_eq_true.mp lowtab n.toNat (List.mem_range.mpr (by omega))
  simp only [Bool.or_eq_true, beq_iff_eq, List.any_eq_true, List.mem_range, Bool.and_eq_true] at ht
  rcases ht with ht | ⟨x, hx, e1, e2, e3⟩
  · omega
  · have eN : eAnd n (-n) = ((2 ^ x : Nat) : Int) := by
      unfold eAnd
      have e : (Int32.ofInt n &&& Int32.ofInt (-n)).toBitVec.toNat = 2 ^ x := by
        rw [Int32.toBitVec_and, BitVec.toNat_and, e_toNat hn.1 (by omega), Int32.toBitVec_ofInt, BitVec.toNat_ofInt, ← e1]
        congr 1
        have : (-n) % ((2 ^ 32 : Nat) : Int) = 4294967296 - n := by
          rw [show ((2 ^ 32 : Nat) : Int) = 4294967296 from rfl]
          omega
        rw [this]
        omega
      have hl : 2 ^ x ≤ 2 ^ 13 := Nat.pow_le_pow_right (by decide) (by omega)
      rw [e_ofBits (by rw [e]; omega), e]
    have hl : 2 ^ x ≤ 2 ^ 13 := Nat.pow_le_pow_right (by decide) (by omega)
    have hp : 0 < 2 ^ x := Nat.pow_pos (by decide)
    have bx : hb14 n (x : Int) := by
      refine ⟨by omega, by omega, ?_⟩
      rw [bt_iff hn.1]
      unfold bt
      rw [Nat.testBit_eq_decide_div_mod_eq, Int.toNat_natCast, e3]
      rfl
    refine ⟨x, bx, fun i hi => ?_, ?_, fun i => ?_⟩
    · refine Classical.byContradiction fun z => ?_
      have h1 := (bt_iff hn.1).mp hi.2.2
      unfold bt at h1
      rw [bit_mod e2 (show i.toNat < x by have := hi.1; omega)] at h1
      exact absurd h1 (by decide)
    · rw [eN]; omega
    · rw [eN, hb_bitv, show ((2 ^ x : Nat) : Int) = 2 ^ ((x : Int)).toNat by rw [Int.toNat_natCast]; exact (e_two x).symm]
      constructor
      · rintro ⟨h1, h2, h3⟩
        rw [bitv_pow (by omega) h1] at h3
        split at h3 <;> omega
      · intro h
        subst h
        refine ⟨by omega, by omega, ?_⟩
        rw [bitv_pow (by omega) (by omega), if_pos rfl]
theorem popI_bI {n : Int} : popI n = sumI (fun x => bI (hb14 n x)) 0 14 := by
  unfold popI
  refine sumI_congr (fun x h1 h2 => ?_)
  by_cases h : n / 2 ^ x.toNat % 2 = 1
  · rw [h, bI_1 ⟨h1, h2, h⟩]
  · rw [bI_0 (fun z => h z.2.2)]; omega
/-- the rows of the cell o hold F -/
def SB (w : eW) (o : Nat) (F : eP) : Prop := (∀ y, 0 ≤ y → y < 10 → (0 ≤ w o y ∧ w o y < 16384) ∧ ∀ x, hb14 (w o y) x ↔ F x y) ∧ sup 14 10 F
theorem SB_fr {S : List Nat} {w w1 : eW} {o : Nat} {F : eP} (h : Fr S w w1) (ho : o ∉ S) (hS : SB w o F) : SB w1 o F := by
  unfold SB at *
  rw [h o ho]
  exact hS
theorem SB_b {w : eW} {o : Nat} {F : eP} (h : SB w o F) : ∀ i, 0 ≤ i → i < 10 → 0 ≤ w o i ∧ w o i < 16384 := fun i h1 h2 => (h.1 i h1 h2).1
