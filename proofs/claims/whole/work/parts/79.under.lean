/-! what lies under the roof, span by span -/
noncomputable def arX (S : eP) (a b ac dn X : Int) : Int := arF S (2 * (ac * dn)) (ac * (X - 2 * (a * dn))) (dn * (X - 2 * (b * ac)))
noncomputable def pwU (S : eP) (a b : Int) : Int := (ct1 S * (a + 1) + ctX S * (-a)) * (b + 1) + (ctY S * (a + 1) + ctB S * (-a)) * (-b)
noncomputable def poU (S : eP) (a b ac dn : Int) : Int := ((ct1 S * (a + 1) + ctX S * (-a)) * (-dn) + (ctY S * (a + 1) + ctB S * (-a)) * dn) + ((ct1 S * (-ac) + ctX S * ac) * (b + 1) + (ctY S * (-ac) + ctB S * ac) * (-b))
noncomputable def ptU (S : eP) (ac dn : Int) : Int := (ct1 S * (-ac) + ctX S * ac) * (-dn) + (ctY S * (-ac) + ctB S * ac) * dn
noncomputable def tmU (S : eP) (a b ac dn t t' : Int) : Int := 6 * (ac * dn) * (ac * dn) * pwU S a b * (t' - t) + 3 * (ac * dn) * poU S a b ac dn * (t' * t' - t * t) + 2 * ptU S ac dn * (t' * t' * t' - t * t * t)
theorem simpson (S : eP) (a b ac dn t t' : Int) : (2 * t' - 2 * t) * (arX S a b ac dn (2 * t) + 4 * arX S a b ac dn (t + t') + arX S a b ac dn (2 * t')) = 8 * tmU S a b ac dn t t' := by
  unfold arX tmU pwU poU ptU arF
  generalize ct1 S = n1
  generalize ctX S = n2
  generalize ctY S = n3
  generalize ctB S = n4
  grind
theorem ct_none : ct1 (fun _ _ => False) = 0 ∧ ctX (fun _ _ => False) = 0 ∧ ctY (fun _ _ => False) = 0 ∧ ctB (fun _ _ => False) = 0 :=
  ⟨ctF_none 14 10, sumI_z (fun _ _ _ => sumI_z (fun _ _ _ => bI_0 (fun z => z.1))), sumI_z (fun _ _ _ => sumI_z (fun _ _ _ => bI_0 (fun z => z.1))), sumI_z (fun _ _ _ => sumI_z (fun _ _ _ => bI_0 (fun z => z.1)))⟩
theorem ct_b (S : eP) : (0 ≤ ct1 S ∧ ct1 S ≤ 140) ∧ (0 ≤ ctX S ∧ ctX S ≤ 140) ∧ (0 ≤ ctY S ∧ ctY S ≤ 140) ∧ 0 ≤ ctB S ∧ ctB S ≤ 140 :=
  ⟨ctF_b (W := 14) (H := 10) (by decide) (by decide) _, ctF_b (W := 14) (H := 10) (by decide) (by decide) _, ctF_b (W := 14) (H := 10) (by decide) (by decide) _, ctF_b (W := 14) (H := 10) (by decide) (by decide) _⟩
theorem arF_b (S : eP) {q f g : Int} (hf : 0 ≤ f ∧ f ≤ q) (hg : 0 ≤ g ∧ g ≤ q) (hq : q ≤ 10000) : 0 ≤ arF S q f g ∧ arF S q f g ≤ 140 * (10000 * 10000) * 4 := by
  obtain ⟨h1, h2, h3, h4⟩ := ct_b S
  unfold arF
  have m : ∀ n x : Int, 0 ≤ n ∧ n ≤ 140 → 0 ≤ x ∧ x ≤ q → 0 ≤ n * x ∧ n * x ≤ 140 * 10000 := fun n x z1 z2 => ⟨Int.mul_nonneg z1.1 z2.1, Int.mul_le_mul z1.2 (by omega) z2.1 (by omega)⟩
  have a1 := m _ (q - f) h1 (by omega)
  have a2 := m _ f h2 hf
  have a3 := m _ (q - f) h3 (by omega)
  have a4 := m _ f h4 hf
  have m2 : ∀ y x : Int, 0 ≤ y ∧ y ≤ 2 * (140 * 10000) → 0 ≤ x ∧ x ≤ q → 0 ≤ y * x ∧ y * x ≤ 2 * (140 * 10000) * 10000 := fun y x z1 z2 => ⟨Int.mul_nonneg z1.1 z2.1, Int.mul_le_mul z1.2 (by omega) z2.1 (by omega)⟩
  have b1 := m2 (ct1 S * (q - f) + ctX S * f) (q - g) (by omega) (by omega)
  have b2 := m2 (ctY S * (q - f) + ctB S * f) g (by omega) hg
  omega
theorem arF_pos {S : eP} (hs : sup 14 10 S) {q f g : Int} (hf : 0 ≤ f ∧ f < q) (hg : 0 ≤ g ∧ g < q) (hne : ∃ x y, S x y) : 0 < arF S q f g := by
  obtain ⟨x, y, hxy⟩ := hne
  obtain ⟨h1, h2, h3, h4⟩ := ct_b S
  have c1 : 1 ≤ ct1 S := by
    have := ctF_lt (W := 14) (H := 10) (F := S) (G := fun _ _ => False) (fun _ _ z => z.elim) (hs x y hxy) hxy (fun z => z)
    rw [ctF_none] at this
    unfold ct1
    omega
  unfold arF
  have a1 : 1 * 1 ≤ ct1 S * (q - f) := Int.mul_le_mul c1 (by omega) (by omega) (by omega)
  have a2 := Int.mul_nonneg h2.1 hf.1
  have a3 : 0 ≤ ctY S * (q - f) := Int.mul_nonneg h3.1 (by omega)
  have a4 := Int.mul_nonneg h4.1 hf.1
  have b1 : 1 * 1 ≤ (ct1 S * (q - f) + ctX S * f) * (q - g) := Int.mul_le_mul (by omega) (by omega) (by omega) (by omega)
  have b2 : 0 ≤ (ctY S * (q - f) + ctB S * f) * g := Int.mul_nonneg (by omega) hg.1
  omega
theorem arF_none {S : eP} (h : ∀ x y, ¬ S x y) (q f g : Int) : arF S q f g = 0 := by
  have e : S = fun _ _ => False := by
    funext x y
    exact propext ⟨fun z => h x y z, fun z => z.elim⟩
  rw [e]
  unfold arF
  obtain ⟨e1, e2, e3, e4⟩ := ct_none
  rw [e1, e2, e3, e4]
  simp
/-- one column, one row more -/
theorem sT_colm {g : Int → Int → Int} {m n k l : Int} (hm : 0 ≤ m) : sT g (m + 1) n k l ↔ sT g m n k l ∧ sT g m n (k + 1) l := by
  unfold sT
  constructor
  · intro h
    exact ⟨fun x y h1 h2 h3 h4 => h x y h1 (by omega) h3 h4, fun x y h1 h2 h3 h4 => h x y (by omega) (by omega) h3 h4⟩
  · rintro ⟨h, h'⟩ x y h1 h2 h3 h4
    by_cases hx : x ≤ k + m
    · exact h x y h1 hx h3 h4
    · exact h' x y (by omega) (by omega) h3 h4
theorem sT_rowm {g : Int → Int → Int} {m n k l : Int} (hn : 0 ≤ n) : sT g m (n + 1) k l ↔ sT g m n k l ∧ sT g m n k (l + 1) := by
  unfold sT
  constructor
  · intro h
    exact ⟨fun x y h1 h2 h3 h4 => h x y h1 h2 h3 (by omega), fun x y h1 h2 h3 h4 => h x y h1 h2 (by omega) (by omega)⟩
  · rintro ⟨h, h'⟩ x y h1 h2 h3 h4
    by_cases hy : y ≤ l + n
    · exact h x y h1 h2 h3 hy
    · exact h' x y h1 h2 (by omega) (by omega)
theorem ctF_cg {W H : Int} {F G : eP} (h : ∀ x y, F x y ↔ G x y) : ctF W H F = ctF W H G := by
  have : F = G := by funext x y; exact propext (h x y)
  rw [this]
theorem arF_col {g : Int → Int → Int} {m n : Int} (hm : 0 ≤ m) (q z : Int) : arF (sT g (m + 1) n) q 0 z = arF (sT g m n) q q z := by
  have e1 : ct1 (sT g (m + 1) n) = ctX (sT g m n) := ctF_cg (fun x y => sT_colm hm)
  have e2 : ctY (sT g (m + 1) n) = ctB (sT g m n) := ctF_cg (fun x y => by
    show sT g (m + 1) n x y ∧ sT g (m + 1) n x (y + 1) ↔ _
    rw [sT_colm hm, sT_colm hm]
    exact ⟨fun z => ⟨z.1.1, z.1.2, z.2.1, z.2.2⟩, fun z => ⟨⟨z.1, z.2.1⟩, z.2.2.1, z.2.2.2⟩⟩)
  unfold arF
  rw [e1, e2]
  grind
theorem arF_row {g : Int → Int → Int} {m n : Int} (hn : 0 ≤ n) (q z : Int) : arF (sT g m (n + 1)) q z 0 = arF (sT g m n) q z q := by
  have e1 : ct1 (sT g m (n + 1)) = ctY (sT g m n) := ctF_cg (fun x y => sT_rowm hn)
  have e2 : ctX (sT g m (n + 1)) = ctB (sT g m n) := ctF_cg (fun x y => by
    show sT g m (n + 1) x y ∧ sT g m (n + 1) (x + 1) y ↔ _
    rw [sT_rowm hn, sT_rowm hn]
    exact ⟨fun z => ⟨z.1.1, z.2.1, z.1.2, z.2.2⟩, fun z => ⟨⟨z.1, z.2.2.1⟩, z.2.1, z.2.2.2⟩⟩)
  unfold arF
  rw [e1, e2]
  grind
/-- nothing jumps -/
theorem ar_cont {g : Int → Int → Int} {ac dn : Int} (ha : 1 ≤ ac) (hd : 1 ≤ dn) (k : Nat) : arX (stS g ac dn (k + 1)) (evA ac dn (k + 1)).1 (evA ac dn (k + 1)).2 ac dn (2 * evT ac dn (k + 1)) = arX (stS g ac dn k) (evA ac dn k).1 (evA ac dn k).2 ac dn (2 * evT ac dn (k + 1)) := by
  obtain ⟨h1, h2, h3, h4⟩ := ev_inv ha hd k
  unfold stS arX
  rw [evA, evT]
  generalize (evA ac dn k).1 = a at *
  generalize (evA ac dn k).2 = b at *
  dsimp only
  have cc : dn * ac = ac * dn := Int.mul_comm _ _
  rcases Int.lt_trichotomy ((a + 1) * dn) ((b + 1) * ac) with hc | hc | hc
  · rw [if_pos (by omega), if_neg (by omega), Int.min_eq_left (by omega)]
    have e1 : ac * (2 * ((a + 1) * dn) - 2 * ((a + 1) * dn)) = 0 := by rw [Int.sub_self, Int.mul_zero]
    have e2 : ac * (2 * ((a + 1) * dn) - 2 * (a * dn)) = 2 * (ac * dn) := by grind
    rw [e1, e2, arF_col h1.1]
  · rw [if_pos (by omega), if_pos (by omega), Int.min_eq_left (by omega)]
    have e1 : ac * (2 * ((a + 1) * dn) - 2 * ((a + 1) * dn)) = 0 := by rw [Int.sub_self, Int.mul_zero]
    have e2 : ac * (2 * ((a + 1) * dn) - 2 * (a * dn)) = 2 * (ac * dn) := by grind
    have e3 : dn * (2 * ((a + 1) * dn) - 2 * ((b + 1) * ac)) = 0 := by rw [hc, Int.sub_self, Int.mul_zero]
    have e4 : dn * (2 * ((a + 1) * dn) - 2 * (b * ac)) = 2 * (ac * dn) := by rw [hc]; grind
    rw [e1, e2, e3, e4, arF_col h1.1, arF_row h1.2]
  · rw [if_neg (by omega), if_pos (by omega), Int.min_eq_right (by omega)]
    have e3 : dn * (2 * ((b + 1) * ac) - 2 * ((b + 1) * ac)) = 0 := by rw [Int.sub_self, Int.mul_zero]
    have e4 : dn * (2 * ((b + 1) * ac) - 2 * (b * ac)) = 2 * (ac * dn) := by grind
    rw [e3, e4, arF_row h1.2]
/-- a span's share, and all of them -/
noncomputable def unK (g : Int → Int → Int) (ac dn : Int) (k : Nat) : Int := tmU (stS g ac dn k) (evA ac dn k).1 (evA ac dn k).2 ac dn (evT ac dn k) (evT ac dn (k + 1))
noncomputable def unS (g : Int → Int → Int) (ac dn K : Int) : Int := sumI (fun k => unK g ac dn k.toNat) 0 K
theorem tmU_none {S : eP} (h : ∀ x y, ¬ S x y) (a b ac dn t t' : Int) : pwU S a b = 0 ∧ poU S a b ac dn = 0 ∧ ptU S ac dn = 0 ∧ tmU S a b ac dn t t' = 0 := by
  have e : S = fun _ _ => False := by
    funext x y
    exact propext ⟨fun z => h x y z, fun z => z.elim⟩
  rw [e]
  unfold tmU pwU poU ptU
  obtain ⟨e1, e2, e3, e4⟩ := ct_none
  rw [e1, e2, e3, e4]
  simp
theorem st_dead {g : Int → Int → Int} {ac dn W H : Int} (hg : ∀ x y, g x y = 1 → 0 ≤ x ∧ x < W ∧ 0 ≤ y ∧ y < H) (ha : 1 ≤ ac) (hd : 1 ≤ dn) {k : Nat} (h : ¬ evL ac dn W H k) : ∀ x y, ¬ stS g ac dn k x y := by
  obtain ⟨h1, h2, h3, h4⟩ := ev_inv ha hd k
  intro x y z
  unfold stS at z
  rw [sT_none hg h1.1 h1.2 (by unfold evL at h; omega)] at z
  exact z
theorem st_gone {g : Int → Int → Int} {ac dn : Int} {k : Nat} (h : ∀ x y, ¬ stS g ac dn k x y) : ∀ j : Nat, k ≤ j → ∀ x y, ¬ stS g ac dn j x y := by
  intro j hj
  induction hj with
  | refl => exact h
  | step _ ih => intro x y z; exact ih x y (st_sub _ x y z)
theorem unS_gone {g : Int → Int → Int} {ac dn : Int} {k : Nat} (h : ∀ x y, ¬ stS g ac dn k x y) {K : Int} (hK : (k : Int) ≤ K) : unS g ac dn K = unS g ac dn k := by
  unfold unS
  rw [sumI_split _ (show (0 : Int) ≤ k by omega) hK, sumI_z (a := (k : Int)) (fun i i1 i2 => ?_), Int.add_zero]
  exact (tmU_none (st_gone h i.toNat (by omega)) _ _ _ _ _ _).2.2.2
theorem unK_b {g : Int → Int → Int} {ac dn : Int} (ha : 1 ≤ ac ∧ ac ≤ 18) (hd : 1 ≤ dn ∧ dn ≤ 18) {W H : Int} (hW : W ≤ 14) (hH : H ≤ 10) (hg : ∀ x y, g x y = 1 → 0 ≤ x ∧ x < W ∧ 0 ≤ y ∧ y < H) (k : Nat) : 0 ≤ unK g ac dn k ∧ unK g ac dn k ≤ 252 * (6 * (140 * (10000 * 10000) * 4)) := by
  by_cases hL : evL ac dn W H k
  · obtain ⟨h1, h2, h3, h4⟩ := ev_inv ha.1 hd.1 k
    have lt := ev_lt ha.1 hd.1 k
    have sp := simpson (stS g ac dn k) (evA ac dn k).1 (evA ac dn k).2 ac dn (evT ac dn k) (evT ac dn (k + 1))
    have eT : evT ac dn (k + 1) = min (((evA ac dn k).1 + 1) * dn) (((evA ac dn k).2 + 1) * ac) := rfl
    have hl : 1 * 1 ≤ ac * dn := Int.mul_le_mul ha.1 hd.1 (by omega) (by omega)
    have hl2 : ac * dn ≤ 18 * 18 := Int.mul_le_mul ha.2 hd.2 (by omega) (by omega)
    have cc : dn * ac = ac * dn := Int.mul_comm _ _
    have e1 := q_s (evA ac dn k).1 dn
    have e2 := q_s (evA ac dn k).2 ac
    have sub : ∀ X, 2 * evT ac dn k ≤ X → X ≤ 2 * evT ac dn (k + 1) → 0 ≤ arX (stS g ac dn k) (evA ac dn k).1 (evA ac dn k).2 ac dn X ∧ arX (stS g ac dn k) (evA ac dn k).1 (evA ac dn k).2 ac dn X ≤ 140 * (10000 * 10000) * 4 := fun X z1 z2 => by
      unfold arX
      refine arF_b _ ⟨Int.mul_nonneg (by omega) (by omega), ?_⟩ ⟨Int.mul_nonneg (by omega) (by omega), ?_⟩ (by omega)
      · have : ac * (X - 2 * ((evA ac dn k).1 * dn)) ≤ ac * (2 * dn) := Int.mul_le_mul_of_nonneg_left (by omega) (by omega)
        have e : ac * (2 * dn) = 2 * (ac * dn) := Int.mul_left_comm _ _ _
        omega
      · have : dn * (X - 2 * ((evA ac dn k).2 * ac)) ≤ dn * (2 * ac) := Int.mul_le_mul_of_nonneg_left (by omega) (by omega)
        have e : dn * (2 * ac) = 2 * (dn * ac) := Int.mul_left_comm _ _ _
        omega
    have f0 := sub (2 * evT ac dn k) (by omega) (by omega)
    have f1 := sub (evT ac dn k + evT ac dn (k + 1)) (by omega) (by omega)
    have f2 := sub (2 * evT ac dn (k + 1)) (by omega) (by omega)
    have tb : evT ac dn (k + 1) - evT ac dn k ≤ 252 := by
      have : ((evA ac dn k).1 + 1) * dn ≤ 14 * 18 := Int.mul_le_mul (by have := hL.1; omega) hd.2 (by omega) (by omega)
      have : 0 ≤ (evA ac dn k).1 * dn := Int.mul_nonneg h1.1 (by omega)
      omega
    have fin := Int.mul_le_mul (show 2 * evT ac dn (k + 1) - 2 * evT ac dn k ≤ 2 * 252 by omega) (show _ ≤ 6 * (140 * (10000 * 10000) * 4) from (by omega : arX (stS g ac dn k) (evA ac dn k).1 (evA ac dn k).2 ac dn (2 * evT ac dn k) + 4 * arX (stS g ac dn k) (evA ac dn k).1 (evA ac dn k).2 ac dn (evT ac dn k + evT ac dn (k + 1)) + arX (stS g ac dn k) (evA ac dn k).1 (evA ac dn k).2 ac dn (2 * evT ac dn (k + 1)) ≤ 6 * (140 * (10000 * 10000) * 4))) (by omega) (by omega)
    have nn := Int.mul_nonneg (show 0 ≤ 2 * evT ac dn (k + 1) - 2 * evT ac dn k by omega) (show 0 ≤ arX (stS g ac dn k) (evA ac dn k).1 (evA ac dn k).2 ac dn (2 * evT ac dn k) + 4 * arX (stS g ac dn k) (evA ac dn k).1 (evA ac dn k).2 ac dn (evT ac dn k + evT ac dn (k + 1)) + arX (stS g ac dn k) (evA ac dn k).1 (evA ac dn k).2 ac dn (2 * evT ac dn (k + 1)) by omega)
    rw [sp] at fin nn
    unfold unK
    omega
  · have := (tmU_none (st_dead hg ha.1 hd.1 hL) (evA ac dn k).1 (evA ac dn k).2 ac dn (evT ac dn k) (evT ac dn (k + 1))).2.2.2
    unfold unK
    omega
theorem unS_b {g : Int → Int → Int} {ac dn : Int} (ha : 1 ≤ ac ∧ ac ≤ 18) (hd : 1 ≤ dn ∧ dn ≤ 18) {W H : Int} (hW : W ≤ 14) (hH : H ≤ 10) (hg : ∀ x y, g x y = 1 → 0 ≤ x ∧ x < W ∧ 0 ≤ y ∧ y < H) {K : Int} (hK : 0 ≤ K ∧ K ≤ 40) : 0 ≤ unS g ac dn K ∧ unS g ac dn K ≤ 40 * (252 * (6 * (140 * (10000 * 10000) * 4))) := by
  have := sumI_bound (f := fun k => unK g ac dn k.toNat) (a := 0) (b := K) (lo := 0) (hi := 252 * (6 * (140 * (10000 * 10000) * 4))) hK.1 (fun i _ _ => unK_b ha hd hW hH hg i.toNat)
  have l : (K - 0) * (252 * (6 * (140 * (10000 * 10000) * 4))) ≤ 40 * (252 * (6 * (140 * (10000 * 10000) * 4))) := Int.mul_le_mul_of_nonneg_right (by omega) (by decide)
  rw [Int.mul_zero] at this
  unfold unS
  omega
