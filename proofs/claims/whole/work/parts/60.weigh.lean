/-- stands, pairs of them side by side, one below the other, blocks of four -/
noncomputable def ct1 (F : eP) : Int := ctF 14 10 F
noncomputable def ctX (F : eP) : Int := ctF 14 10 (fun x y => F x y ∧ F (x + 1) y)
noncomputable def ctY (F : eP) : Int := ctF 14 10 (fun x y => F x y ∧ F x (y + 1))
noncomputable def ctB (F : eP) : Int := ctF 14 10 (fun x y => F x y ∧ F (x + 1) y ∧ F x (y + 1) ∧ F (x + 1) (y + 1))
/-- the area by q * q -/
noncomputable def arF (F : eP) (q f g : Int) : Int := (ct1 F * (q - f) + ctX F * f) * (q - g) + (ctY F * (q - f) + ctB F * f) * g
theorem sT_min {g : Int → Int → Int} {W H M N : Int} (hg : ∀ x y, g x y = 1 → 0 ≤ x ∧ x < W ∧ 0 ≤ y ∧ y < H) (hW : W ≤ 14) (hH : H ≤ 10) (hM : 0 ≤ M) (hN : 0 ≤ N) : sT g (min M 14) (min N 10) = sT g M N := by
  funext a b
  apply propext
  constructor
  · intro h x y h1 h2 h3 h4
    by_cases hm : M ≤ 14
    · by_cases hn : N ≤ 10
      · exact h x y h1 (by omega) h3 (by omega)
      · have e1 := hg a b (h a b (by omega) (by omega) (by omega) (by omega))
        have e2 := hg a (b + 10) (h a (b + 10) (by omega) (by omega) (by omega) (by omega))
        omega
    · have e1 := hg a b (h a b (by omega) (by omega) (by omega) (by omega))
      have e2 := hg (a + 14) b (h (a + 14) b (by omega) (by omega) (by omega) (by omega))
      omega
  · intro h x y h1 h2 h3 h4
    exact h x y h1 (by omega) h3 (by omega)
theorem sp_of {w : eW} (hH : HH w) : ∀ i, 0 ≤ i → i < 4 → 1 ≤ w 4 i ∧ w 4 i ≤ 9 := fun i h1 h2 => ⟨hH.2.1 i h1 h2, (hH.1.2.2.1 i h1 h2).2⟩
theorem y_X4_weigh25 (w : eW) (a b : Int) (hsp : ∀ i, 0 ≤ i → i < 4 → 1 ≤ w 4 i ∧ w 4 i ≤ 9) (ha : 0 ≤ a ∧ a ≤ 1000000) (hb : 0 < b ∧ b ≤ 1000000) {F : eP} (hF : SB w 25 F) : Cal mX4_weigh [eR 24, eR 25, (1, a), (1, b)] w (some (1, arF F b (a * (w 4 1 + w 4 3) % b) (a * (w 4 0 + w 4 2) % b))) w := by
  have key := loop_up (P := fun y => Go mX4_weigh 24 [(0, eR 24), (1, eR 25), (2, (1, a)), (4, (1, b)), (6, (1, sumI (fun y => sumI (fun x => bI (F x y)) 0 14) 0 y)), (8, (1, sumI (fun y => sumI (fun x => bI (F x y ∧ F (x + 1) y)) 0 14) 0 y)), (10, (1, sumI (fun y => sumI (fun x => bI (F x y ∧ F x (y + 1))) 0 14) 0 y)), (12, (1, sumI (fun y => sumI (fun x => bI (F x y ∧ F (x + 1) y ∧ F x (y + 1) ∧ F (x + 1) (y + 1))) 0 14) 0 y)), (14, (0, y))] [] w (some (1, arF F b (a * (w 4 1 + w 4 3) % b) (a * (w 4 0 + w 4 2) % b))) w) 0 10 ?_ ?_ 0 (by omega) (by omega)
  · rw [sumI_self, sumI_self, sumI_self, sumI_self] at key
    exact Cal.of (by decide +kernel) (Nat.le_of_ble_eq_true rfl) (tX4_weigh25_0 w a b hb key)
  · apply tX4_weigh25_24 w a b _ _ _ _ _ hsp ha hb (by omega) (SB_b hF)
    · intro z; omega
    · intro z; omega
    · intro _; exact ⟨rfl, rfl⟩
  · intro y hy1 hy2 ih
    rw [sumI_succ _ hy1, sumI_succ _ hy1, sumI_succ _ hy1, sumI_succ _ hy1] at ih
    have fy := hF.1 y hy1 hy2
    have sh := hb_shr (a := w 25 y) (k := 1) fy.1 (by decide)
    have an := hb_and fy.1 sh.1
    have p1 : popI (w 25 y) = sumI (fun x => bI (F x y)) 0 14 := by
      rw [popI_bI]
      exact sumI_congr (fun x _ _ => bI_congr (fy.2 x))
    have p2 : popI (eAnd (w 25 y) (w 25 y / 2 ^ (1 : Int).toNat)) = sumI (fun x => bI (F x y ∧ F (x + 1) y)) 0 14 := by
      rw [popI_bI]
      refine sumI_congr (fun x h1 _ => bI_congr ?_)
      rw [an.2, sh.2, fy.2, fy.2]
      exact ⟨fun z => ⟨z.1, z.2.2⟩, fun z => ⟨z.1, h1, z.2⟩⟩
    have nx : ∀ v, (0 ≤ v ∧ v < 16384) → (∀ x, hb14 v x ↔ F x (y + 1)) → popI (eAnd (w 25 y) v) = sumI (fun x => bI (F x y ∧ F x (y + 1))) 0 14 ∧ popI (eAnd (eAnd (eAnd (w 25 y) (w 25 y / 2 ^ (1 : Int).toNat)) v) (v / 2 ^ (1 : Int).toNat)) = sumI (fun x => bI (F x y ∧ F (x + 1) y ∧ F x (y + 1) ∧ F (x + 1) (y + 1))) 0 14 := by
      intro v v1 v2
      have sv := hb_shr (a := v) (k := 1) v1 (by decide)
      have a1 := hb_and fy.1 v1
      have a2 := hb_and an.1 v1
      have a3 := hb_and a2.1 sv.1
      refine ⟨?_, ?_⟩
      · rw [popI_bI]
        refine sumI_congr (fun x _ _ => bI_congr ?_)
        rw [a1.2, fy.2, v2]
      · rw [popI_bI]
        refine sumI_congr (fun x h1 _ => bI_congr ?_)
        rw [a3.2, a2.2, an.2, sh.2, sv.2, fy.2, fy.2, v2, v2]
        exact ⟨fun z => ⟨z.1.1.1, z.1.1.2.2, z.1.2, z.2.2⟩, fun z => ⟨⟨⟨z.1, h1, z.2.1⟩, z.2.2.1⟩, h1, z.2.2.2⟩⟩
    by_cases hc : y + 1 < 10
    · have fn := hF.1 (y + 1) (by omega) hc
      obtain ⟨p3, p4⟩ := nx _ fn.1 fn.2
      rw [← p1, ← p2, ← p3, ← p4] at ih
      apply tX4_weigh25_24 w a b _ _ _ _ _ hsp ha hb (by omega) (SB_b hF)
      · intro _ _; exact ih
      · intro _ z; exact absurd hc z
      · intro z; omega
    · obtain ⟨p3, p4⟩ := nx 0 (by omega) (fun x => ⟨fun q => absurd q (hb_no0 x), fun q => by have := hF.2 _ _ q; omega⟩)
      rw [← p1, ← p2, ← p3, ← p4] at ih
      apply tX4_weigh25_24 w a b _ _ _ _ _ hsp ha hb (by omega) (SB_b hF)
      · intro _ z; exact absurd z hc
      · intro _ _; exact ih
      · intro z; omega
theorem y_X4_weigh27 (w : eW) (a b : Int) (hsp : ∀ i, 0 ≤ i → i < 4 → 1 ≤ w 4 i ∧ w 4 i ≤ 9) (ha : 0 ≤ a ∧ a ≤ 1000000) (hb : 0 < b ∧ b ≤ 1000000) {F : eP} (hF : SB w 27 F) : Cal mX4_weigh [eR 24, eR 27, (1, a), (1, b)] w (some (1, arF F b (a * (w 4 1 + w 4 3) % b) (a * (w 4 0 + w 4 2) % b))) w := by
  have key := loop_up (P := fun y => Go mX4_weigh 24 [(0, eR 24), (1, eR 27), (2, (1, a)), (4, (1, b)), (6, (1, sumI (fun y => sumI (fun x => bI (F x y)) 0 14) 0 y)), (8, (1, sumI (fun y => sumI (fun x => bI (F x y ∧ F (x + 1) y)) 0 14) 0 y)), (10, (1, sumI (fun y => sumI (fun x => bI (F x y ∧ F x (y + 1))) 0 14) 0 y)), (12, (1, sumI (fun y => sumI (fun x => bI (F x y ∧ F (x + 1) y ∧ F x (y + 1) ∧ F (x + 1) (y + 1))) 0 14) 0 y)), (14, (0, y))] [] w (some (1, arF F b (a * (w 4 1 + w 4 3) % b) (a * (w 4 0 + w 4 2) % b))) w) 0 10 ?_ ?_ 0 (by omega) (by omega)
  · rw [sumI_self, sumI_self, sumI_self, sumI_self] at key
    exact Cal.of (by decide +kernel) (Nat.le_of_ble_eq_true rfl) (tX4_weigh27_0 w a b hb key)
  · apply tX4_weigh27_24 w a b _ _ _ _ _ hsp ha hb (by omega) (SB_b hF)
    · intro z; omega
    · intro z; omega
    · intro _; exact ⟨rfl, rfl⟩
  · intro y hy1 hy2 ih
    rw [sumI_succ _ hy1, sumI_succ _ hy1, sumI_succ _ hy1, sumI_succ _ hy1] at ih
    have fy := hF.1 y hy1 hy2
    have sh := hb_shr (a := w 27 y) (k := 1) fy.1 (by decide)
    have an := hb_and fy.1 sh.1
    have p1 : popI (w 27 y) = sumI (fun x => bI (F x y)) 0 14 := by
      rw [popI_bI]
      exact sumI_congr (fun x _ _ => bI_congr (fy.2 x))
    have p2 : popI (eAnd (w 27 y) (w 27 y / 2 ^ (1 : Int).toNat)) = sumI (fun x => bI (F x y ∧ F (x + 1) y)) 0 14 := by
      rw [popI_bI]
      refine sumI_congr (fun x h1 _ => bI_congr ?_)
      rw [an.2, sh.2, fy.2, fy.2]
      exact ⟨fun z => ⟨z.1, z.2.2⟩, fun z => ⟨z.1, h1, z.2⟩⟩
    have nx : ∀ v, (0 ≤ v ∧ v < 16384) → (∀ x, hb14 v x ↔ F x (y + 1)) → popI (eAnd (w 27 y) v) = sumI (fun x => bI (F x y ∧ F x (y + 1))) 0 14 ∧ popI (eAnd (eAnd (eAnd (w 27 y) (w 27 y / 2 ^ (1 : Int).toNat)) v) (v / 2 ^ (1 : Int).toNat)) = sumI (fun x => bI (F x y ∧ F (x + 1) y ∧ F x (y + 1) ∧ F (x + 1) (y + 1))) 0 14 := by
      intro v v1 v2
      have sv := hb_shr (a := v) (k := 1) v1 (by decide)
      have a1 := hb_and fy.1 v1
      have a2 := hb_and an.1 v1
      have a3 := hb_and a2.1 sv.1
      refine ⟨?_, ?_⟩
      · rw [popI_bI]
        refine sumI_congr (fun x _ _ => bI_congr ?_)
        rw [a1.2, fy.2, v2]
      · rw [popI_bI]
        refine sumI_congr (fun x h1 _ => bI_congr ?_)
        rw [a3.2, a2.2, an.2, sh.2, sv.2, fy.2, fy.2, v2, v2]
        exact ⟨fun z => ⟨z.1.1.1, z.1.1.2.2, z.1.2, z.2.2⟩, fun z => ⟨⟨⟨z.1, h1, z.2.1⟩, z.2.2.1⟩, h1, z.2.2.2⟩⟩
    by_cases hc : y + 1 < 10
    · have fn := hF.1 (y + 1) (by omega) hc
      obtain ⟨p3, p4⟩ := nx _ fn.1 fn.2
      rw [← p1, ← p2, ← p3, ← p4] at ih
      apply tX4_weigh27_24 w a b _ _ _ _ _ hsp ha hb (by omega) (SB_b hF)
      · intro _ _; exact ih
      · intro _ z; exact absurd hc z
      · intro z; omega
    · obtain ⟨p3, p4⟩ := nx 0 (by omega) (fun x => ⟨fun q => absurd q (hb_no0 x), fun q => by have := hF.2 _ _ q; omega⟩)
      rw [← p1, ← p2, ← p3, ← p4] at ih
      apply tX4_weigh27_24 w a b _ _ _ _ _ hsp ha hb (by omega) (SB_b hF)
      · intro _ z; exact absurd z hc
      · intro _ _; exact ih
      · intro z; omega
theorem y_X4_findStandsAt (w : eW) (a b : Int) (hH : HH w) (ha : 0 ≤ a ∧ a ≤ 1000000) (hb : 0 < b ∧ b ≤ 1000000) : ∃ w1, Cal mX4_findStandsAt [eR 24, (1, a), (1, b)] w none w1 ∧ Fr [25] w w1 ∧ SB w1 25 (sT (gC w) (a * (w 4 1 + w 4 3) / b) (a * (w 4 0 + w 4 2) / b)) := by
  obtain ⟨⟨b1, b2, b3, b4, b5, b6⟩, b7, b8, b9⟩ := id hH.1
  have p0 := sp_of hH 0 (by decide) (by decide)
  have p1 := sp_of hH 1 (by decide) (by decide)
  have p2 := sp_of hH 2 (by decide) (by decide)
  have p3 := sp_of hH 3 (by decide) (by decide)
  have d1 : 0 ≤ a * (w 4 1 + w 4 3) / b := Int.ediv_nonneg (Int.mul_nonneg ha.1 (by omega)) (by omega)
  have d2 : 0 ≤ a * (w 4 0 + w 4 2) / b := Int.ediv_nonneg (Int.mul_nonneg ha.1 (by omega)) (by omega)
  obtain ⟨w1, c1, c2, c3⟩ := y_X4_findStands25 w (min (a * (w 4 1 + w 4 3) / b) 14) (min (a * (w 4 0 + w 4 2) / b) 10) hH (by omega) (by omega)
  rw [sT_min gC_in b2 b4 d1 d2] at c3
  exact ⟨w1, Cal.of (by decide +kernel) (Nat.le_of_ble_eq_true rfl) (tX4_findStandsAt_0 w a b (sp_of hH) ha hb c1 ⟨rfl, rfl⟩), c2, c3⟩
theorem y_X4_areaLeft (w : eW) (a b : Int) (hH : HH w) (ha : 0 ≤ a ∧ a ≤ 1000000) (hb : 0 < b ∧ b ≤ 1000000) : ∃ w1, Cal mX4_areaLeft [eR 24, (1, a), (1, b)] w (some (1, arF (sT (gC w) (a * (w 4 1 + w 4 3) / b) (a * (w 4 0 + w 4 2) / b)) b (a * (w 4 1 + w 4 3) % b) (a * (w 4 0 + w 4 2) % b))) w1 ∧ Fr [25] w w1 := by
  obtain ⟨w1, c1, c2, c3⟩ := y_X4_findStandsAt w a b hH ha hb
  have e4 : w1 4 = w 4 := c2 4 (by decide)
  have c4 := y_X4_weigh25 w1 a b (by rw [e4]; exact sp_of hH) ha hb c3
  rw [e4] at c4
  exact ⟨w1, Cal.of (by decide +kernel) (Nat.le_of_ble_eq_true rfl) (tX4_areaLeft_0 w a b c1 c4 ⟨rfl, rfl⟩), c2⟩
theorem y_X4_countLeft (w : eW) (a b : Int) (hH : HH w) (ha : 0 ≤ a ∧ a ≤ 1000000) (hb : 0 < b ∧ b ≤ 1000000) : ∃ w1 n, isNp (sT (gC w) (a * (w 4 1 + w 4 3) / b) (a * (w 4 0 + w 4 2) / b)) n ∧ n ≤ 140 ∧ Cal mX4_countLeft [eR 24, (0, a), (0, b)] w (some (0, (n : Int))) w1 ∧ Fr [25, 27] w w1 := by
  obtain ⟨w1, c1, c2, c3⟩ := y_X4_findStandsAt w a b hH ha hb
  obtain ⟨w2, n, d1, d2, d3, d4⟩ := y_X4_countParts25 w1 c3
  exact ⟨w2, n, d1, d2, Cal.of (by decide +kernel) (Nat.le_of_ble_eq_true rfl) (tX4_countLeft_0 w a b (by omega) (by omega) c1 d3 ⟨rfl, rfl⟩), (c2.mono (by decide)).tr d4⟩
theorem y_X4_areaOfPart (w : eW) (a b i : Int) (hi : 0 ≤ i ∧ i < 2147483648) (hH : HH w) (ha : 0 ≤ a ∧ a ≤ 1000000) (hb : 0 < b ∧ b ≤ 1000000) {n : Nat} (hn : isNp (sT (gC w) (a * (w 4 1 + w 4 3) / b) (a * (w 4 0 + w 4 2) / b)) n) : ∃ w1, Cal mX4_areaOfPart [eR 24, (0, a), (0, b), (0, i)] w (some (1, if i < n then arF (pc (itr (sT (gC w) (a * (w 4 1 + w 4 3) / b) (a * (w 4 0 + w 4 2) / b)) i.toNat)) b (a * (w 4 1 + w 4 3) % b) (a * (w 4 0 + w 4 2) % b) else 0)) w1 ∧ Fr [25, 27] w w1 := by
  obtain ⟨w1, c1, c2, c3⟩ := y_X4_findStandsAt w a b hH ha hb
  have l0 := ctF_b (W := 14) (H := 10) (by decide) (by decide) (sT (gC w) (a * (w 4 1 + w 4 3) / b) (a * (w 4 0 + w 4 2) / b))
  obtain ⟨n', m1, m2⟩ := isNp_ex (W := 14) (H := 10) (by decide) (by decide) c3.2
  have en := isNp_one hn m1
  revert hn c3
  generalize (sT (gC w) (a * (w 4 1 + w 4 3) / b) (a * (w 4 0 + w 4 2) / b)) = T at *
  intro hn c3
  have key := loop_up (P := fun k => ∀ w0, Fr [25, 27] w w0 → k ≤ i → SB w0 25 (itr T k.toNat) → (∀ j : Nat, (j : Int) < k → ∃ x y, itr T j x y) → ∃ w2, Go mX4_areaOfPart 11 [(0, eR 24), (1, (0, a)), (2, (0, b)), (3, (0, i)), (4, (0, k))] [] w0 (some (1, if i < n then arF (pc (itr T i.toNat)) b (a * (w 4 1 + w 4 3) % b) (a * (w 4 0 + w 4 2) % b) else 0)) w2 ∧ Fr [25, 27] w w2) 0 140 ?_ ?_ 0 (by omega) (by omega) w1 (c2.mono (by decide)) hi.1 c3 (fun j hj => by omega)
  · obtain ⟨w2, k1, k2⟩ := key
    exact ⟨w2, Cal.of (by decide +kernel) (Nat.le_of_ble_eq_true rfl) (tX4_areaOfPart_0 w a b i (by omega) (by omega) c1 k1), k2⟩
  · intro w0 f0 hk s0 hall
    refine ⟨w0, ?_, f0⟩
    rw [if_neg (by omega)]
    apply tX4_areaOfPart_11 w0 a b i 140 (w1 := w0) (gg := 0) (aa := 0) (by omega) (by omega) (by omega) (by omega) (Or.inl rfl) (fun z => absurd z (by omega)) (fun _ z => absurd rfl z)
    · intro z; omega
    · intro z; omega
    · intro z; omega
    · intro _; exact ⟨rfl, rfl⟩
  · intro k hk1 hk2 ih w0 f0 hk s0 hall
    obtain ⟨w2, d1, d2, d3, d4⟩ := y_X4_takePart25 w0 s0
    have f2 : Fr [25, 27] w w2 := f0.tr d2
    have e4 : w2 4 = w 4 := f2 4 (by decide)
    by_cases he : ∃ x y, itr T k.toNat x y
    · rw [bI_1 he] at d1
      have hkn : k < n := by
        refine Classical.byContradiction fun z => ?_
        obtain ⟨x, y, q⟩ := he
        have : ∀ m : Nat, n ≤ m → ∀ x y, ¬ itr T m x y := by
          intro m hm
          induction hm with
          | refl => exact hn.2
          | step _ ihm => intro x y q; exact ihm x y q.1
        exact this k.toNat (by omega) x y q
      by_cases hki : k = i
      · have c4 := y_X4_weigh27 w2 a b (by rw [e4]; exact sp_of hH) ha hb d4
        rw [e4] at c4
        refine ⟨w2, ?_, f2⟩
        rw [if_pos (by omega), ← hki]
        apply tX4_areaOfPart_11 w0 a b k k (by omega) (by omega) (by omega) (by omega) (Or.inr rfl) (fun _ => d1) (fun _ _ => c4)
        · intro _ z; exact absurd z (by decide)
        · intro _ _ _; exact ⟨rfl, rfl⟩
        · intro _ _ z; exact absurd rfl z
        · intro z; omega
      · obtain ⟨w3, k1, k2⟩ := ih w2 f2 (by omega) (by rw [show (k + 1).toNat = k.toNat + 1 by omega]; exact d3) (fun j hj => by
          by_cases hjk : (j : Int) = k
          · rw [show j = k.toNat by omega]; exact he
          · exact hall j (by omega))
        refine ⟨w3, ?_, k2⟩
        apply tX4_areaOfPart_11 w0 a b i k (aa := 0) (by omega) (by omega) (by omega) (by omega) (Or.inr rfl) (fun _ => d1) (fun z => absurd z hki)
        · intro _ z; exact absurd z (by decide)
        · intro _ _ z; exact absurd z hki
        · intro _ _ _; exact k1
        · intro z; omega
    · rw [bI_0 he] at d1
      have : ¬ i < n := fun z => he (hn.1 k.toNat (by omega))
      rw [if_neg this]
      refine ⟨w2, ?_, f2⟩
      apply tX4_areaOfPart_11 w0 a b i k (aa := 0) (by omega) (by omega) (by omega) (by omega) (Or.inl rfl) (fun _ => d1) (fun _ z => absurd rfl z)
      · intro _ _; exact ⟨rfl, rfl⟩
      · intro _ z; exact absurd rfl z
      · intro _ z; exact absurd rfl z
      · intro z; omega
