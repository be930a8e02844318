theorem y_X8_placeIn45 (w : eW) (n v : Int) (hn : 2 ≤ n ∧ n ≤ 30) (hv : eI v) (hb : ∀ i, 0 ≤ i → i < n → -300000 ≤ w 45 i ∧ w 45 i ≤ 300000) : ∃ k, Cal mX8_placeIn [eR 45, (0, n), (0, v)] w (some (0, k)) w ∧ (0 ≤ k ∧ k + 1 < n) ∧ (0 < k → 2 * w 45 k ≤ v) ∧ (k + 2 < n → v < 2 * w 45 (k + 1)) := by
  have key := loop_up (P := fun k => (0 < k → 2 * w 45 k ≤ v) → ∃ k', Go mX8_placeIn 2 [(0, eR 45), (1, (0, n)), (2, (0, v)), (3, (0, k))] [] w (some (0, k')) w ∧ (0 ≤ k' ∧ k' + 1 < n) ∧ (0 < k' → 2 * w 45 k' ≤ v) ∧ (k' + 2 < n → v < 2 * w 45 (k' + 1))) 0 (n - 2) ?_ ?_ 0 (by omega) (by omega) (fun z => absurd z (by decide))
  · obtain ⟨k, k1, k2⟩ := key
    exact ⟨k, Cal.of (by decide +kernel) (Nat.le_of_ble_eq_true rfl) (tX8_placeIn45_0 w n v k1), k2⟩
  · intro h
    refine ⟨n - 2, ?_, by omega, h, fun z => by omega⟩
    apply tX8_placeIn45_2 w n v _ (by omega) hv (by omega) (fun z => absurd z (by omega))
    · intro z; omega
    · intro z; omega
    · intro _; exact ⟨rfl, rfl⟩
  · intro k hk1 hk2 ih h
    have b := hb (k + 1) (by omega) (by omega)
    by_cases hc : v < 2 * w 45 (k + 1)
    · refine ⟨k, ?_, by omega, h, fun _ => hc⟩
      apply tX8_placeIn45_2 w n v _ (by omega) hv (by omega) (fun _ => by omega)
      · intro _ _; exact ⟨rfl, rfl⟩
      · intro _ z; exact absurd hc z
      · intro z; omega
    · obtain ⟨k', k1, k2⟩ := ih (fun _ => by omega)
      refine ⟨k', ?_, k2⟩
      apply tX8_placeIn45_2 w n v _ (by omega) hv (by omega) (fun _ => by omega)
      · intro _ z; exact absurd z hc
      · intro _ _; exact k1
      · intro z; omega
theorem y_X8_placeIn48 (w : eW) (n v : Int) (hn : 2 ≤ n ∧ n ≤ 30) (hv : eI v) (hb : ∀ i, 0 ≤ i → i < n → -300000 ≤ w 48 i ∧ w 48 i ≤ 300000) : ∃ k, Cal mX8_placeIn [eR 48, (0, n), (0, v)] w (some (0, k)) w ∧ (0 ≤ k ∧ k + 1 < n) ∧ (0 < k → 2 * w 48 k ≤ v) ∧ (k + 2 < n → v < 2 * w 48 (k + 1)) := by
  have key := loop_up (P := fun k => (0 < k → 2 * w 48 k ≤ v) → ∃ k', Go mX8_placeIn 2 [(0, eR 48), (1, (0, n)), (2, (0, v)), (3, (0, k))] [] w (some (0, k')) w ∧ (0 ≤ k' ∧ k' + 1 < n) ∧ (0 < k' → 2 * w 48 k' ≤ v) ∧ (k' + 2 < n → v < 2 * w 48 (k' + 1))) 0 (n - 2) ?_ ?_ 0 (by omega) (by omega) (fun z => absurd z (by decide))
  · obtain ⟨k, k1, k2⟩ := key
    exact ⟨k, Cal.of (by decide +kernel) (Nat.le_of_ble_eq_true rfl) (tX8_placeIn48_0 w n v k1), k2⟩
  · intro h
    refine ⟨n - 2, ?_, by omega, h, fun z => by omega⟩
    apply tX8_placeIn48_2 w n v _ (by omega) hv (by omega) (fun z => absurd z (by omega))
    · intro z; omega
    · intro z; omega
    · intro _; exact ⟨rfl, rfl⟩
  · intro k hk1 hk2 ih h
    have b := hb (k + 1) (by omega) (by omega)
    by_cases hc : v < 2 * w 48 (k + 1)
    · refine ⟨k, ?_, by omega, h, fun _ => hc⟩
      apply tX8_placeIn48_2 w n v _ (by omega) hv (by omega) (fun _ => by omega)
      · intro _ _; exact ⟨rfl, rfl⟩
      · intro _ z; exact absurd hc z
      · intro z; omega
    · obtain ⟨k', k1, k2⟩ := ih (fun _ => by omega)
      refine ⟨k', ?_, k2⟩
      apply tX8_placeIn48_2 w n v _ (by omega) hv (by omega) (fun _ => by omega)
      · intro _ z; exact absurd z hc
      · intro _ _; exact k1
      · intro z; omega
/-- a place in the midst of a cell between lines of a later time lies, earlier, in one of no more columns -/
theorem ls_mid {f : Int → Int} {n q p va vb W m ff s i0 : Int} (h : LSt f n q p va vb W m ff s i0) (hq : 0 < q) (hf : 0 ≤ ff ∧ ff < q) (e : vb * p + va * p = m * q + ff) {i : Int} (g1 : 0 ≤ bq s i0 i) (g2 : bq s i0 i + m + br s i0 i < W) : 2 * (bq s i0 i * q + va * p) < f i + f (i + 1) ∧ f i + f (i + 1) < 2 * ((bq s i0 i + m + br s i0 i + 1) * q - vb * p) := by
  obtain ⟨k1, k2, k3⟩ := h.2.2.2.2.2 i g1 g2
  obtain ⟨x1, x2⟩ := bq_eq (o := i0) (i := i) h.2.1
  have h3 := h.2.2.2.1
  rw [k2, k3]
  generalize bq s i0 i = k at *
  rcases x2 with x2 | x2
  · rw [x2, if_neg (by decide), if_neg (by decide)]
    have : (k + m + 0 + 1) * q = k * q + m * q + q := by grind
    omega
  · have := h3 x2.1
    rw [x2.2, if_pos rfl, if_pos rfl]
    have : (k + m + 1 + 1) * q = k * q + m * q + q + q := by grind
    omega
theorem ls_place {w0 : eW} {o ob om : Nat} {n q p va vb W m ff s i0 : Int} (hI : lnI w0 o ob om n q p va vb W (W + 1)) (h : LSt (w0 o) n q p va vb W m ff s i0) (hq : 0 < q) (hf : 0 ≤ ff ∧ ff < q) (e : vb * p + va * p = m * q + ff) {k' e' M I : Int} (hk : 0 ≤ k') (he : k' ≤ e' ∧ e' < W) (h1 : 2 * (k' * q + va * p) < M) (h2 : M < 2 * ((e' + 1) * q - vb * p)) (i1 : 0 ≤ I ∧ I + 1 < n) (i2 : 0 < I → 2 * w0 o I ≤ M) (i3 : I + 2 < n → M < 2 * w0 o (I + 1)) : (0 ≤ bq s i0 I ∧ bq s i0 I + m + br s i0 I < W) ∧ k' ≤ bq s i0 I ∧ bq s i0 I + m + br s i0 I ≤ e' := by
  obtain ⟨c1, c2, c3, c4⟩ := hI
  obtain ⟨⟨a, a1, a2, a3⟩, _⟩ := c4 k' hk (by omega)
  obtain ⟨_, ⟨b, b1, b2, b3⟩⟩ := c4 (e' + 1) (by omega) (by omega)
  have hab : a < b := by
    refine Classical.byContradiction fun z => ?_
    by_cases hc : b = a
    · rw [hc] at b3; omega
    · have := srt_lt c2 b1 (show b < a by omega) a2; omega
  have hIa : a ≤ I := by
    refine Classical.byContradiction fun z => ?_
    have x1 := i3 (by omega)
    by_cases hc : I + 1 = a
    · rw [hc, a3] at x1; omega
    · have := srt_lt c2 (show 0 ≤ I + 1 by omega) (show I + 1 < a by omega) a2; omega
  have hIb : I + 1 ≤ b := by
    refine Classical.byContradiction fun z => ?_
    have x1 := i2 (by omega)
    by_cases hc : I = b
    · rw [hc, b3] at x1; omega
    · have := srt_lt c2 b1 (show b < I by omega) (by omega); omega
  have f1 : k' * q + va * p ≤ w0 o I := by
    rw [← a3]
    by_cases hc : a = I
    · rw [hc]; exact Int.le_refl _
    · have := srt_lt c2 a1 (show a < I by omega) (by omega); omega
  have f2 : w0 o (I + 1) ≤ (e' + 1) * q - vb * p := by
    rw [← b3]
    by_cases hc : I + 1 = b
    · rw [hc]; exact Int.le_refl _
    · have := srt_lt c2 (show 0 ≤ I + 1 by omega) (show I + 1 < b by omega) b2; omega
  have k0 : 0 ≤ k' * q := Int.mul_nonneg hk (by omega)
  have eW := q_le (q := q) (by omega) (show e' + 1 ≤ W by omega)
  have inn := (h.2.2.2.2.1 I i1.1 i1.2).mp ⟨by omega, by omega⟩
  refine ⟨inn, ?_⟩
  obtain ⟨g1, g2, g3⟩ := h.2.2.2.2.2 I inn.1 inn.2
  obtain ⟨x1, x2⟩ := bq_eq (o := i0) (i := I) h.2.1
  have h3 := h.2.2.2.1
  rw [g2] at f1
  rw [g3] at f2
  generalize bq s i0 I = k at *
  have nle : ∀ u v : Int, u * q < v * q → u < v := fun u v z => Classical.byContradiction fun z2 => by
    have := q_le (q := q) (by omega) (show v ≤ u by omega); omega
  rcases x2 with x2 | x2
  · rw [x2, if_neg (by decide)] at f1 f2
    have y1 := nle k' (k + 1) (by rw [q_s]; omega)
    have y2 := nle (k + m) (e' + 1) (by rw [Int.add_mul]; omega)
    rw [x2]
    omega
  · have := h3 x2.1
    rw [x2.2, if_pos rfl] at f1 f2
    have y1 := nle k' (k + 1) (by rw [q_s]; omega)
    have y2 := nle (k + 1 + m) (e' + 1) (by rw [Int.add_mul, q_s]; omega)
    rw [x2.2]
    omega
/-- a piece goes on with all that hangs together with it -/
theorem pc_cn {T : eP} (n : Nat) {a b x y : Int} (h : pc (itr T n) a b) (hc : cn T a b x y) : pc (itr T n) x y := hc (pc (itr T n)) h (fun _ _ _ _ q1 q2 q3 => pc_clo n q1 q2 q3)
/-- a rectangle of stands hangs together -/
theorem cn_rect {T : eP} {a b c d : Int} (h1 : a ≤ c) (h2 : b ≤ d) (hT : ∀ x y, a ≤ x → x ≤ c → b ≤ y → y ≤ d → T x y) : cn T a b c d := by
  have row := loop_up (P := fun x => cn T a b (a + (c - x)) b) a c (by rw [show a + (c - c) = a by omega]; exact cn_rf) (fun x x1 x2 ih => cn_st ih (hT _ _ (by omega) (by omega) (by omega) (by omega)) (by unfold adj; omega)) a (by omega) h1
  rw [show a + (c - a) = c by omega] at row
  have col := loop_up (P := fun y => cn T a b c (b + (d - y))) b d (by rw [show b + (d - d) = b by omega]; exact row) (fun y y1 y2 ih => cn_st ih (hT _ _ (by omega) (by omega) (by omega) (by omega)) (by unfold adj; omega)) b (by omega) h2
  rw [show b + (d - b) = d by omega] at col
  exact col
/-- where the midst of a later cell lies -/
theorem lay_place {wz wz' w w' : eW} {p p' q sX iX sY iY sX' iX' sY' iY' : Int} {n n' : Nat} (hM : MB wz) (hsp : ∀ k, 140 ≤ k → k < 144 → 1 ≤ wz 38 k ∧ wz 38 k ≤ 9) (hp : 0 ≤ p ∧ p ≤ 10000) (hp' : 0 ≤ p' ∧ p' ≤ 10000) (hpp : p ≤ p') (hq : 1 ≤ q ∧ q ≤ 10000) (hL : LAY wz w p q sX iX sY iY n) (e38 : wz' 38 = wz 38) (e24 : wz' 33 24 = wz 33 24) (e25 : wz' 33 25 = wz 33 25) (hM' : MB wz') (hL' : LAY wz' w' p' q sX' iX' sY' iY' n') {a b I J : Int} (h : lf iX' iY' sX' sY' (sT (gM wz) (mX wz p' q) (mY wz p' q)) a b) (i1 : 0 ≤ I ∧ I + 1 < w 33 42) (i2 : 0 < I → 2 * w 45 I ≤ w' 45 a + w' 45 (a + 1)) (i3 : I + 2 < w 33 42 → w' 45 a + w' 45 (a + 1) < 2 * w 45 (I + 1)) (j1 : 0 ≤ J ∧ J + 1 < w 33 43) (j2 : 0 < J → 2 * w 48 J ≤ w' 48 b + w' 48 (b + 1)) (j3 : J + 2 < w 33 43 → w' 48 b + w' 48 (b + 1) < 2 * w 48 (J + 1)) :
    lf iX iY sX sY (sT (gM wz) (mX wz p q) (mY wz p q)) I J ∧ cn (sT (gM wz) (mX wz p q) (mY wz p q)) (bq sX' iX' a) (bq sY' iY' b) (bq sX iX I) (bq sY iY J) ∧ (sT (gM wz) (mX wz p q) (mY wz p q)) (bq sX' iX' a) (bq sY' iY' b) := by
  have d := lay_d hM hsp hp hq hL
  have d' := lay_d hM' (by rw [e38]; exact hsp) hp' hq hL'
  obtain ⟨l1, l2, l3, l4, l5, l6, l7, l8, l9⟩ := id hL
  obtain ⟨m1, m2, m3, m4, m5, m6, m7, m8, m9⟩ := id hL'
  have x1 : mX wz' p' q = mX wz p' q := by unfold mX; rw [e38]
  have x2 : mY wz' p' q = mY wz p' q := by unfold mY; rw [e38]
  have x3 : fX wz' p' q = fX wz p' q := by unfold fX; rw [e38]
  have x4 : fY wz' p' q = fY wz p' q := by unfold fY; rw [e38]
  have x5 : gM wz' = gM wz := by unfold gM insM; rw [e38, e24, e25]
  rw [e38, e24] at m3
  rw [e38, e25] at m4
  rw [e38, e24, x1, x3] at m5
  rw [e38, e25, x2, x4] at m6
  rw [x1, x2, x3, x4, x5] at d'
  have s0 := hsp 140 (by decide) (by decide)
  have s1 := hsp 141 (by decide) (by decide)
  have s2 := hsp 142 (by decide) (by decide)
  have s3 := hsp 143 (by decide) (by decide)
  have eX : ∀ t, wz 38 141 * t + wz 38 143 * t = mX wz t q * q + fX wz t q := fun t => by
    have := Int.mul_ediv_add_emod (wz 38 141 * t + wz 38 143 * t) q
    rw [Int.mul_comm] at this; exact this.symm
  have eY : ∀ t, wz 38 142 * t + wz 38 140 * t = mY wz t q * q + fY wz t q := fun t => by
    have := Int.mul_ediv_add_emod (wz 38 142 * t + wz 38 140 * t) q
    rw [Int.mul_comm] at this; exact this.symm
  have hin := lf_in gM_in m5.2.1 m6.2.1 d'.1.1 d'.1.2 h
  have bX := bq_eq (o := iX') (i := a) m5.2.1
  have bY := bq_eq (o := iY') (i := b) m6.2.1
  have md1 := ls_mid m5 (by omega) d'.2.1 (eX p') hin.1.1 hin.1.2
  have md2 := ls_mid m6 (by omega) d'.2.2.1 (eY p') hin.2.1 hin.2.2
  have v3 : wz 38 143 * p ≤ wz 38 143 * p' := Int.mul_le_mul_of_nonneg_left hpp (by omega)
  have v1 : wz 38 141 * p ≤ wz 38 141 * p' := Int.mul_le_mul_of_nonneg_left hpp (by omega)
  have v0 : wz 38 140 * p ≤ wz 38 140 * p' := Int.mul_le_mul_of_nonneg_left hpp (by omega)
  have v2 : wz 38 142 * p ≤ wz 38 142 * p' := Int.mul_le_mul_of_nonneg_left hpp (by omega)
  have px := ls_place l3 l5 (by omega) d.2.1 (eX p) (k' := bq sX' iX' a) (e' := bq sX' iX' a + mX wz p' q + br sX' iX' a) (M := w' 45 a + w' 45 (a + 1)) hin.1.1 (by omega) (by omega) (by omega) i1 i2 i3
  have py := ls_place l4 l6 (by omega) d.2.2.1 (eY p) (k' := bq sY' iY' b) (e' := bq sY' iY' b + mY wz p' q + br sY' iY' b) (M := w' 48 b + w' 48 (b + 1)) hin.2.1 (by omega) (by omega) (by omega) j1 j2 j3
  have rect := (lf_rect m5.2.1 m6.2.1 d'.1.1 d'.1.2 a b).mp h
  have hm0 := bq_eq (o := iX) (i := I) l5.2.1
  have hm1 := bq_eq (o := iY) (i := J) l6.2.1
  refine ⟨(lf_rect l5.2.1 l6.2.1 d.1.1 d.1.2 I J).mpr (fun x y a1 a2 a3 a4 => rect x y (by omega) (by omega) (by omega) (by omega)), cn_rect px.2.1 py.2.1 (fun x y a1 a2 a3 a4 x' y' c1 c2 c3 c4 => rect x' y' (by omega) (by omega) (by omega) (by omega)), fun x' y' c1 c2 c3 c4 => rect x' y' (by omega) (by omega) (by omega) (by omega)⟩
/-- samples: of each piece the midst of one of its cells -/
theorem y_evSamples {wz w : eW} {p q sX iX sY iY : Int} {n : Nat} (hM : MB wz) (hsp : ∀ k, 140 ≤ k → k < 144 → 1 ≤ wz 38 k ∧ wz 38 k ≤ 9) (hp : 0 ≤ p ∧ p ≤ 10000) (hq : 1 ≤ q ∧ q ≤ 10000) (hL : LAY wz w p q sX iX sY iY n) (k th : Int) : ∃ w1, Fr [58, 59] w w1 ∧ (∀ e : Int, 0 ≤ e → e < n → ∃ a b, 0 ≤ a ∧ a < w 33 42 - 1 ∧ 0 ≤ b ∧ b < w 33 43 - 1 ∧ w 51 (30 * b + a) = e ∧ w1 58 e = w 45 a + w 45 (a + 1) ∧ w1 59 e = w 48 b + w 48 (b + 1)) ∧ ∀ (r : Option eV) (w9 : eW), Go mX8_laysEvents 43 [(0, eR 33), (1, (0, k)), (2, (0, th)), (3, (0, w 33 42 - 1))] [] w1 r w9 → Go mX8_laysEvents 43 [(0, eR 33), (1, (0, k)), (2, (0, th)), (3, (0, 0))] [] w r w9 := by
  have d := lay_d hM hsp hp hq hL
  obtain ⟨l1, l2, l3, l4, l5, l6, l7, l8, l9⟩ := id hL
  have hn9 : (n : Int) ≤ 141 := by
    obtain ⟨n', q1, q2⟩ := isNp_ex (W := 14) (H := 10) (by decide) (by decide) d.2.2.2
    have := isNp_one l7 q1
    have := (ctF_b (W := 14) (H := 10) (by decide) (by decide) (sT (gM wz) (mX wz p q) (mY wz p q))).2
    omega
  have key := loop_up (P := fun i => ∀ w0, Fr [58, 59] w w0 → (∀ e, 0 ≤ e → (∃ a b, 0 ≤ a ∧ a < i ∧ 0 ≤ b ∧ b < w 33 43 - 1 ∧ w 51 (30 * b + a) = e) → ∃ a b, 0 ≤ a ∧ a < w 33 42 - 1 ∧ 0 ≤ b ∧ b < w 33 43 - 1 ∧ w 51 (30 * b + a) = e ∧ w0 58 e = w 45 a + w 45 (a + 1) ∧ w0 59 e = w 48 b + w 48 (b + 1)) → ∃ w1, Fr [58, 59] w w1 ∧ (∀ e, 0 ≤ e → (∃ a b, 0 ≤ a ∧ a < w 33 42 - 1 ∧ 0 ≤ b ∧ b < w 33 43 - 1 ∧ w 51 (30 * b + a) = e) → ∃ a b, 0 ≤ a ∧ a < w 33 42 - 1 ∧ 0 ≤ b ∧ b < w 33 43 - 1 ∧ w 51 (30 * b + a) = e ∧ w1 58 e = w 45 a + w 45 (a + 1) ∧ w1 59 e = w 48 b + w 48 (b + 1)) ∧ ∀ (r : Option eV) (w9 : eW), Go mX8_laysEvents 43 [(0, eR 33), (1, (0, k)), (2, (0, th)), (3, (0, w 33 42 - 1))] [] w1 r w9 → Go mX8_laysEvents 43 [(0, eR 33), (1, (0, k)), (2, (0, th)), (3, (0, i))] [] w0 r w9) 0 (w 33 42 - 1) (fun w0 f0 hI => ⟨w0, f0, hI, fun _ _ h => h⟩) ?_ 0 (by omega) (by omega) w Fr.rf (fun e _ ⟨a, b, z1, z2, _⟩ => by omega)
  · obtain ⟨w1, f1, k1, k2⟩ := key
    refine ⟨w1, f1, fun e e1 e2 => k1 e e1 ?_, k2⟩
    obtain ⟨x, y, hx⟩ := l7.1 e.toNat (by omega)
    obtain ⟨u, v, hm⟩ := isMn_ex (sup_itr d.2.2.2 e.toNat) hx
    have hpc : pc (itr (sT (gM wz) (mX wz p q) (mY wz p q)) e.toNat) u v := ⟨u, v, hm, cn_rf⟩
    have hlf := (lg_al l5.2.1 l6.2.1 (i0 := iX) (j0 := iY) (T := (sT (gM wz) (mX wz p q) (mY wz p q))) (F := (sT (gM wz) (mX wz p q) (mY wz p q))) (fun _ _ z => z) (itr_sub e.toNat u v hm.1)).1
    have hr := (lay_in hM hsp hp hq hL hlf).1
    have hlb := ((l9 _ _ hr.1.1 hr.1.2 hr.2.1 hr.2.2).2.2 e.toNat (by omega)).mpr ((lf_pc l5.2.1 l6.2.1 e.toNat _ _).mpr ⟨hlf, by rw [(bq_al l5.2.1).1, (bq_al l6.2.1).1]; exact hpc⟩)
    exact ⟨_, _, hr.1.1, hr.1.2, hr.2.1, hr.2.2, by omega⟩
  · intro i hi1 hi2 ih w0 f0 hI
    have row := loop_up (P := fun j => ∀ w2, Fr [58, 59] w w2 → (∀ e, 0 ≤ e → (∃ a b, 0 ≤ a ∧ 0 ≤ b ∧ b < w 33 43 - 1 ∧ (a < i ∨ (a = i ∧ b < j)) ∧ w 51 (30 * b + a) = e) → ∃ a b, 0 ≤ a ∧ a < w 33 42 - 1 ∧ 0 ≤ b ∧ b < w 33 43 - 1 ∧ w 51 (30 * b + a) = e ∧ w2 58 e = w 45 a + w 45 (a + 1) ∧ w2 59 e = w 48 b + w 48 (b + 1)) → ∃ w3, Fr [58, 59] w w3 ∧ (∀ e, 0 ≤ e → (∃ a b, 0 ≤ a ∧ a < i + 1 ∧ 0 ≤ b ∧ b < w 33 43 - 1 ∧ w 51 (30 * b + a) = e) → ∃ a b, 0 ≤ a ∧ a < w 33 42 - 1 ∧ 0 ≤ b ∧ b < w 33 43 - 1 ∧ w 51 (30 * b + a) = e ∧ w3 58 e = w 45 a + w 45 (a + 1) ∧ w3 59 e = w 48 b + w 48 (b + 1)) ∧ ∀ (r : Option eV) (w9 : eW), Go mX8_laysEvents 43 [(0, eR 33), (1, (0, k)), (2, (0, th)), (3, (0, i + 1))] [] w3 r w9 → Go mX8_laysEvents 56 [(0, eR 33), (1, (0, k)), (2, (0, th)), (3, (0, i)), (4, (0, j))] [] w2 r w9) 0 (w 33 43 - 1) ?_ ?_ 0 (by omega) (by omega) w0 f0 (fun e e1 ⟨a, b, z1, z2, z3, z4, z5⟩ => hI e e1 ⟨a, b, z1, by omega, z2, z3, z5⟩)
    · obtain ⟨w3, r1, r2, r3⟩ := row
      obtain ⟨w4, t1, t2, t3⟩ := ih w3 r1 r2
      refine ⟨w4, t1, t2, fun r w9 hgo => ?_⟩
      have e33 : w0 33 = w 33 := f0 33 (by decide)
      apply tX8_laysEvents_43 w0 k th i (w1 := w0) (md := 0) (by rw [e33]; exact l2.1) (by omega) (fun z => absurd (by rw [e33]; omega) z) (fun z => absurd (by rw [e33]; omega) z)
      · intro _; exact r3 _ _ (t3 r w9 hgo)
      · intro z; rw [e33] at z; omega
    · intro w2 f2 hI2
      have e33 : w2 33 = w 33 := f2 33 (by decide)
      refine ⟨w2, f2, fun e e1 ⟨a, b, z1, z2, z3, z4, z5⟩ => hI2 e e1 ⟨a, b, z1, z3, z4, by omega, z5⟩, fun r w9 hgo => ?_⟩
      apply tX8_laysEvents_56 w2 k th i _ (w1 := w2) (by rw [e33]; exact l2.2) (by omega) (fun z => absurd z (by rw [e33]; omega))
      · intro z; rw [e33] at z; omega
      · intro _; exact hgo
    · intro j hj1 hj2 ihj w2 f2 hI2
      have e33 : w2 33 = w 33 := f2 33 (by decide)
      have e51 : w2 51 = w 51 := f2 51 (by decide)
      have e45 : w2 45 = w 45 := f2 45 (by decide)
      have e48 : w2 48 = w 48 := f2 48 (by decide)
      have lb := (l9 i j hi1 (by omega) hj1 (by omega)).1
      by_cases hneg : w 51 (30 * j + i) < 0
      · obtain ⟨w3, r1, r2, r3⟩ := ihj w2 f2 (fun e e1 ⟨a, b, z1, z2, z3, z4, z5⟩ => hI2 e e1 ⟨a, b, z1, z2, z3, by
          by_cases hc : a = i ∧ b = j
          · rw [hc.1, hc.2] at z5; omega
          · omega, z5⟩)
        refine ⟨w3, r1, r2, fun r w9 hgo => ?_⟩
        apply tX8_laysEvents_56 w2 k th i _ (w1 := w2) (by rw [e33]; exact l2.2) (by omega) (fun _ => Cal.of (by decide +kernel) (Nat.le_of_ble_eq_true rfl) (tX8_samples_0 w2 i j (by omega) (by omega) (by rw [e51]; omega) (fun _ => ⟨rfl, rfl⟩) (fun z => absurd (by rw [e51]; exact hneg) z)))
        · intro _; exact r3 r w9 hgo
        · intro z; rw [e33] at z; omega
      · obtain ⟨w3, r1, r2, r3⟩ := ihj (eU (eU w2 58 (w 51 (30 * j + i)) (w 45 i + w 45 (i + 1))) 59 (w 51 (30 * j + i)) (w 48 j + w 48 (j + 1))) ((f2.put (by decide)).put (by decide)) (fun e e1 ⟨a, b, z1, z2, z3, z4, z5⟩ => by
          rw [eU_ne (show (58 : Nat) ≠ 59 by decide), eU_get, eU_get, eU_ne (show (59 : Nat) ≠ 58 by decide)]
          by_cases he : e = w 51 (30 * j + i)
          · rw [if_pos he, if_pos he]
            exact ⟨i, j, hi1, by omega, hj1, by omega, he.symm, rfl, rfl⟩
          · rw [if_neg he, if_neg he]
            refine hI2 e e1 ⟨a, b, z1, z2, z3, ?_, z5⟩
            by_cases hc : a = i ∧ b = j
            · rw [hc.1, hc.2] at z5; omega
            · omega)
        refine ⟨w3, r1, r2, fun r w9 hgo => ?_⟩
        apply tX8_laysEvents_56 w2 k th i _ (by rw [e33]; exact l2.2) (by omega) (fun _ => Cal.of (by decide +kernel) (Nat.le_of_ble_eq_true rfl) (tX8_samples_0 w2 i j (by omega) (by omega) (by rw [e51]; omega) (fun z => absurd (by rw [e51] at z; exact z) hneg) (fun _ => ⟨rfl, rfl⟩)))
        · intro _; rw [e51, e45, e48]; exact r3 r w9 hgo
        · intro z; rw [e33] at z; omega
