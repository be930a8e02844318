theorem MB_g {w w0 : eW} (h38 : w0 38 = w 38) (h40 : w0 40 = w 40) (h : ∀ i, 24 ≤ i → i ≤ 28 → w0 33 i = w 33 i) (hM : MB w) : MB w0 := by
  unfold MB at *
  rw [h38, h40, h 24 (by decide) (by decide), h 25 (by decide) (by decide), h 26 (by decide) (by decide), h 27 (by decide) (by decide), h 28 (by decide) (by decide)]
  exact hM
theorem gM_g {w w0 : eW} (h38 : w0 38 = w 38) (h : ∀ i, 24 ≤ i → i ≤ 28 → w0 33 i = w 33 i) : gM w0 = gM w := by
  unfold gM insM
  rw [h38, h 24 (by decide) (by decide), h 25 (by decide) (by decide)]
theorem y_X8_comesTime (w : eW) (v : Int) (hv : eI v) (hn : 0 ≤ w 33 46 ∧ w 33 46 ≤ 31) (hs : srt (w 53) (w 33 46)) (he : ∀ i, 0 ≤ i → i < w 33 46 → eI (w 53 i)) : ∃ w1, Cal mX8_comesTime [eR 33, (0, v)] w none w1 ∧ Fr [33, 53] w w1 ∧ (∀ i, i ≠ 46 → w1 33 i = w 33 i) ∧ (w 33 46 ≤ w1 33 46 ∧ w1 33 46 ≤ w 33 46 + 1) ∧ srt (w1 53) (w1 33 46) ∧ (∀ i, 0 ≤ i → i < w 33 46 → ∃ j, 0 ≤ j ∧ j < w1 33 46 ∧ w1 53 j = w 53 i) ∧ (∃ j, 0 ≤ j ∧ j < w1 33 46 ∧ w1 53 j = v) ∧ ∀ E : Int → Prop, (∀ i, 0 ≤ i → i < w 33 46 → E (w 53 i)) → E v → ∀ j, 0 ≤ j → j < w1 33 46 → E (w1 53 j) := by
  generalize hnn : w 33 46 = n at *
  have find := loop_up (P := fun d => (∀ i, n - d ≤ i → i < n → v ≤ w 53 i) → ∃ k, (0 ≤ k ∧ k ≤ n) ∧ (∀ i, k ≤ i → i < n → v ≤ w 53 i) ∧ (0 < k → w 53 (k - 1) < v) ∧ ∀ (r : Option eV) (w9 : eW), Go mX8_comesTime 27 [(0, eR 33), (1, (0, v)), (2, (0, k))] [] w r w9 → Go mX8_comesTime 5 [(0, eR 33), (1, (0, v)), (2, (0, n - d))] [] w r w9) 0 n ?_ ?_ 0 (by omega) (by omega) (fun i h1 h2 => by omega)
  · obtain ⟨k, hk, k1, k2, k3⟩ := find
    rw [show n - 0 = n by omega] at k3
    by_cases hc : k < n ∧ w 53 k = v
    · refine ⟨w, Cal.of (by decide +kernel) (Nat.le_of_ble_eq_true rfl) (tX8_comesTime_0 w v ?_), Fr.rf, fun _ _ => rfl, by omega, by rw [hnn]; exact hs, fun i h1 h2 => ⟨i, h1, by omega, rfl⟩, ⟨k, hk.1, by omega, hc.2⟩, fun E h1 h2 j h3 h4 => h1 j h3 (by omega)⟩
      rw [hnn]
      refine k3 _ _ ?_
      apply tX8_comesTime_27 w v k hv (by omega) (by omega) (fun z => he k hk.1 (by omega))
      · intro _ _; exact ⟨rfl, rfl⟩
      · intro _ z; exact absurd hc.2 z
      · intro z; exact absurd hc.1 (by omega)
    · have shift := loop_up (P := fun d => ∀ w0, Fr [53] w w0 → (∀ j, w0 53 j = if n - d < j ∧ j ≤ n then w 53 (j - 1) else w 53 j) → ∃ w1, Go mX8_comesTime 51 [(0, eR 33), (1, (0, v)), (2, (0, k)), (3, (0, n - d))] [] w0 none w1 ∧ Fr [33, 53] w w1 ∧ (∀ i, i ≠ 46 → w1 33 i = w 33 i) ∧ w1 33 46 = n + 1 ∧ w1 53 = insF (w 53) n k v) 0 (n - k) ?_ ?_ 0 (by omega) (by omega) w Fr.rf (fun j => by rw [if_neg (by omega)])
      · obtain ⟨w1, g1, g2, g3, g4, g5⟩ := shift
        rw [show n - 0 = n by omega] at g1
        refine ⟨w1, Cal.of (by decide +kernel) (Nat.le_of_ble_eq_true rfl) (tX8_comesTime_0 w v ?_), g2, g3, by omega, ?_, fun i h1 h2 => ?_, ⟨k, hk.1, by omega, ?_⟩, fun E h1 h2 j h3 h4 => ?_⟩
        · rw [hnn]
          refine k3 _ _ ?_
          apply tX8_comesTime_27 w v k hv (by omega) (by omega) (fun z => he k hk.1 (by omega))
          · intro z1 z2; exact absurd ⟨by omega, z2⟩ hc
          · intro _ _; rw [hnn]; exact g1
          · intro _; rw [hnn]; exact g1
        · rw [g4, g5]
          refine insF_srt hs hk k2 (fun z => ?_)
          have := k1 k (by omega) z
          have : ¬ w 53 k = v := fun q => hc ⟨z, q⟩
          omega
        · rw [g4, g5]
          unfold insF
          by_cases hi : i < k
          · exact ⟨i, h1, by omega, by rw [if_neg (by omega), if_neg (by omega)]⟩
          · exact ⟨i + 1, by omega, by omega, by rw [if_neg (by omega), if_pos (by omega), show i + 1 - 1 = i by omega]⟩
        · rw [g5]
          unfold insF
          rw [if_pos rfl]
        · rw [g5]
          rw [g4] at h4
          unfold insF
          by_cases c1 : j = k
          · rw [if_pos c1]; exact h2
          · rw [if_neg c1]
            by_cases c2 : k < j ∧ j ≤ n
            · rw [if_pos c2]; exact h1 (j - 1) (by omega) (by omega)
            · rw [if_neg c2]; exact h1 j h3 (by omega)
      · intro w0 f0 s1
        have e33 : w0 33 = w 33 := f0 33 (by decide)
        refine ⟨eU (eU w0 53 k v) 33 46 (w0 33 46 + 1), ?_, ((f0.mono (by decide)).put (by decide)).put (by decide), fun i hi => by rw [eU_get, if_neg hi, eU_ne (by decide), e33], by rw [eU_get, if_pos rfl, e33, hnn], ?_⟩
        · rw [show n - (n - k) = k by omega]
          apply tX8_comesTime_51 w0 v k k (by rw [e33]; omega) (by omega) (by rw [e33]; omega)
          · intro z; omega
          · intro _; exact ⟨rfl, rfl⟩
        · rw [eU_ne (by decide), eU_at]
          funext j
          unfold insF
          rw [s1 j, show n - (n - k) = k by omega]
      · intro d hd1 hd2 ih w0 f0 s1
        have e33 : w0 33 = w 33 := f0 33 (by decide)
        obtain ⟨w1, g1, g2⟩ := ih (eU w0 53 (n - d) (w0 53 (n - d - 1))) (f0.put (by decide)) (fun j => by
          rw [eU_get]
          by_cases hj : j = n - d
          · rw [if_pos hj, if_pos (by omega), s1, if_neg (by omega), hj]
          · rw [if_neg hj, s1]
            by_cases hc : n - d < j ∧ j ≤ n
            · rw [if_pos hc, if_pos (by omega)]
            · rw [if_neg hc, if_neg (by omega)])
        refine ⟨w1, ?_, g2⟩
        rw [show n - (d + 1) = n - d + (-1) by omega] at g1
        apply tX8_comesTime_51 w0 v k _ (by rw [e33]; omega) (by omega) (by rw [e33]; omega)
        · intro _; exact g1
        · intro z; omega
  · intro h
    refine ⟨0, by omega, fun i h1 h2 => h i (by omega) h2, fun z => absurd z (by decide), fun r w9 q => ?_⟩
    rw [show n - n = 0 by omega]
    apply tX8_comesTime_5 w v 0 hv (by omega) (by omega) (fun z => absurd z (by decide))
    · intro z; exact absurd z (by decide)
    · intro z; exact absurd z (by decide)
    · intro _; exact q
  · intro d hd1 hd2 ih h
    by_cases hc : w 53 (n - d - 1) < v
    · refine ⟨n - d, by omega, h, fun _ => hc, fun r w9 q => ?_⟩
      apply tX8_comesTime_5 w v _ hv (by omega) (by omega) (fun _ => he _ (by omega) (by omega))
      · intro _ _; exact q
      · intro _ z; exact absurd hc z
      · intro z; omega
    · obtain ⟨k, k0, k1, k2, k3⟩ := ih (fun i h1 h2 => by
        by_cases hi : i = n - d - 1
        · rw [hi]; omega
        · exact h i (by omega) h2)
      refine ⟨k, k0, k1, k2, fun r w9 q => ?_⟩
      have q2 := k3 r w9 q
      rw [show n - (d + 1) = n - d + (-1) by omega] at q2
      apply tX8_comesTime_5 w v _ hv (by omega) (by omega) (fun _ => he _ (by omega) (by omega))
      · intro _ z; exact absurd z hc
      · intro _ _; exact q2
      · intro z; omega
/-- times, as far as the first x of the one kind and the first y of the other -/
def tmK (w0 : eW) (ac dn x y : Int) : Prop := (0 ≤ w0 33 46 ∧ w0 33 46 ≤ x + y) ∧ srt (w0 53) (w0 33 46) ∧ (∀ i, 0 ≤ i → i < w0 33 46 → tmV ac dn x y (w0 53 i)) ∧ ∀ v, tmV ac dn x y v → ∃ i, 0 ≤ i ∧ i < w0 33 46 ∧ w0 53 i = v
theorem tmV_b {ac dn x y v : Int} (ha : 1 ≤ ac ∧ ac ≤ 18) (hd : 1 ≤ dn ∧ dn ≤ 18) (hx : x ≤ 14) (hy : y ≤ 14) (h : tmV ac dn x y v) : 1 ≤ v ∧ v ≤ 252 := by
  rcases h with ⟨d, d1, d2, rfl⟩ | ⟨d, d1, d2, rfl⟩
  · have := Int.mul_le_mul (show d ≤ 14 by omega) hd.2 (by omega) (by omega)
    have := Int.mul_le_mul d1 hd.1 (by omega) (by omega)
    omega
  · have := Int.mul_le_mul (show d ≤ 14 by omega) ha.2 (by omega) (by omega)
    have := Int.mul_le_mul d1 ha.1 (by omega) (by omega)
    omega
theorem tmK_add {w0 w1 : eW} {ac dn x y x' y' v : Int} (h : tmK w0 ac dn x y) (hn : w0 33 46 ≤ w1 33 46 ∧ w1 33 46 ≤ w0 33 46 + 1) (hs : srt (w1 53) (w1 33 46)) (h1 : ∀ i, 0 ≤ i → i < w0 33 46 → ∃ j, 0 ≤ j ∧ j < w1 33 46 ∧ w1 53 j = w0 53 i) (h2 : ∃ j, 0 ≤ j ∧ j < w1 33 46 ∧ w1 53 j = v) (h3 : ∀ E : Int → Prop, (∀ i, 0 ≤ i → i < w0 33 46 → E (w0 53 i)) → E v → ∀ j, 0 ≤ j → j < w1 33 46 → E (w1 53 j)) (hxy : x' + y' = x + y + 1) (hu : ∀ u, tmV ac dn x' y' u ↔ tmV ac dn x y u ∨ u = v) : tmK w1 ac dn x' y' := by
  obtain ⟨k1, k2, k3, k4⟩ := h
  refine ⟨by omega, hs, h3 _ (fun i i1 i2 => (hu _).mpr (Or.inl (k3 i i1 i2))) ((hu _).mpr (Or.inr rfl)), fun u hq => ?_⟩
  rcases (hu u).mp hq with q | q
  · obtain ⟨i, i1, i2, i3⟩ := k4 u q
    obtain ⟨j, j1, j2, j3⟩ := h1 i i1 i2
    exact ⟨j, j1, j2, j3.trans i3⟩
  · rw [q]; exact h2
theorem y_X8_laysTimes (w : eW) (hM : MB w) (hsp : ∀ k, 140 ≤ k → k < 144 → 1 ≤ w 38 k ∧ w 38 k ≤ 9) : ∃ w1, Cal mX8_laysTimes [eR 33] w none w1 ∧ Fr [33, 53] w w1 ∧ (∀ i, i ≠ 46 → i ≠ 47 → w1 33 i = w 33 i) ∧ w1 33 47 = (w 38 141 + w 38 143) * (w 38 140 + w 38 142) ∧ tmK w1 (w 38 141 + w 38 143) (w 38 140 + w 38 142) (w 33 24) (w 33 25) := by
  obtain ⟨⟨c1, c2, c3, c4, c5, c6, c7, c8, c9, c10⟩, c11, c12, c13⟩ := id hM
  have s0 := hsp 140 (by decide) (by decide)
  have s1 := hsp 141 (by decide) (by decide)
  have s2 := hsp 142 (by decide) (by decide)
  have s3 := hsp 143 (by decide) (by decide)
  generalize hac : w 38 141 + w 38 143 = ac
  generalize hdn : w 38 140 + w 38 142 = dn
  have F0 : Fr [33, 53] w (eU (eU w 33 47 (ac * dn)) 33 46 0) := (Fr.rf.put (by decide)).put (by decide)
  have G0 : ∀ i, i ≠ 46 → i ≠ 47 → (eU (eU w 33 47 (ac * dn)) 33 46 0) 33 i = w 33 i := fun i h1 h2 => by rw [eU_get, if_neg h1, eU_get, if_neg h2]
  have mb : ∀ w0, Fr [33, 53] w w0 → (∀ i, i ≠ 46 → i ≠ 47 → w0 33 i = w 33 i) → MB w0 := fun w0 f g => MB_g (f 38 (by decide)) (f 40 (by decide)) (fun i h1 h2 => g i (by omega) (by omega)) hM
  have down := loop_up (P := fun d => ∀ w0, Fr [33, 53] w w0 → (∀ i, i ≠ 46 → i ≠ 47 → w0 33 i = w 33 i) → w0 33 47 = ac * dn → tmK w0 ac dn (w 33 24) (d - 1) → ∃ w1, Go mX8_laysTimes 61 [(0, eR 33), (1, (0, ac)), (2, (0, dn)), (3, (0, d))] [] w0 none w1 ∧ Fr [33, 53] w w1 ∧ (∀ i, i ≠ 46 → i ≠ 47 → w1 33 i = w 33 i) ∧ w1 33 47 = ac * dn ∧ tmK w1 ac dn (w 33 24) (w 33 25)) 1 (w 33 25 + 1) ?_ ?_ 1 (by omega) (by omega)
  · have wide := loop_up (P := fun d => ∀ w0, Fr [33, 53] w w0 → (∀ i, i ≠ 46 → i ≠ 47 → w0 33 i = w 33 i) → w0 33 47 = ac * dn → tmK w0 ac dn (d - 1) 0 → ∃ w1, Go mX8_laysTimes 38 [(0, eR 33), (1, (0, ac)), (2, (0, dn)), (3, (0, d))] [] w0 none w1 ∧ Fr [33, 53] w w1 ∧ (∀ i, i ≠ 46 → i ≠ 47 → w1 33 i = w 33 i) ∧ w1 33 47 = ac * dn ∧ tmK w1 ac dn (w 33 24) (w 33 25)) 1 (w 33 24 + 1) ?_ ?_ 1 (by omega) (by omega) _ F0 G0 (by rw [eU_get, if_neg (by decide), eU_get, if_pos rfl]) ⟨by rw [eU_get, if_pos rfl]; omega, fun i z1 z2 => by rw [eU_get, if_pos rfl] at z2; omega, fun i z1 z2 => by rw [eU_get, if_pos rfl] at z2; omega, fun v hv => by
      rcases hv with ⟨d, d1, d2, _⟩ | ⟨d, d1, d2, _⟩ <;> omega⟩
    · obtain ⟨w1, k1, k2⟩ := wide
      refine ⟨w1, Cal.of (by decide +kernel) (Nat.le_of_ble_eq_true rfl) (tX8_laysTimes_0 w ?_), k2⟩
      rw [hac, hdn]
      exact k1
    · intro w0 f g e47 hK
      rw [show w 33 24 + 1 - 1 = w 33 24 by omega] at hK
      obtain ⟨w1, k1, k2⟩ := down w0 f g e47 (by rw [show (1 : Int) - 1 = 0 by omega]; exact hK)
      refine ⟨w1, ?_, k2⟩
      apply tX8_laysTimes_38 w0 ac dn _ (w1 := w0) (mb w0 f g) (by omega) (fun z => absurd z (by rw [g 24 (by decide) (by decide)]; omega))
      · intro _; exact k1
      · intro z; rw [g 24 (by decide) (by decide)] at z; omega
    · intro d hd1 hd2 ih w0 f g e47 hK
      have hvb : tmV ac dn d 0 (d * dn) := Or.inl ⟨d, hd1, by omega, rfl⟩
      have hb := tmV_b (by omega) (by omega) (by omega) (by omega) hvb
      obtain ⟨w1, a1, a2, a3, a4, a5, a6, a7, a8⟩ := y_X8_comesTime w0 (d * dn) (by omega) (by have := hK.1; omega) hK.2.1 (fun i z1 z2 => by
        have := tmV_b (by omega) (by omega) (by omega) (by omega) (hK.2.2.1 i z1 z2); omega)
      have hK1 : tmK w1 ac dn (d + 1 - 1) 0 := tmK_add hK a4 a5 a6 a7 a8 (by omega) (fun u => by
        unfold tmV
        constructor
        · rintro (⟨e, e1, e2, e3⟩ | ⟨e, e1, e2, e3⟩)
          · by_cases he : e = d
            · right; rw [e3, he]
            · left; left; exact ⟨e, e1, by omega, e3⟩
          · omega
        · rintro ((⟨e, e1, e2, e3⟩ | ⟨e, e1, e2, e3⟩) | e3)
          · left; exact ⟨e, e1, by omega, e3⟩
          · omega
          · left; exact ⟨d, hd1, by omega, e3⟩)
      obtain ⟨w2, k1, k2⟩ := ih w1 (f.tr a2) (fun i h1 h2 => (a3 i h1).trans (g i h1 h2)) ((a3 47 (by decide)).trans e47) hK1
      refine ⟨w2, ?_, k2⟩
      apply tX8_laysTimes_38 w0 ac dn _ (mb w0 f g) (by omega) (fun _ => a1)
      · intro z; rw [g 24 (by decide) (by decide)] at z; omega
      · intro _; exact k1
  · intro w0 f g e47 hK
    rw [show w 33 25 + 1 - 1 = w 33 25 by omega] at hK
    refine ⟨w0, ?_, f, g, e47, hK⟩
    apply tX8_laysTimes_61 w0 ac dn _ (w1 := w0) (mb w0 f g) (by omega) (fun z => absurd z (by rw [g 25 (by decide) (by decide)]; omega))
    · intro _; exact ⟨rfl, rfl⟩
    · intro z; rw [g 25 (by decide) (by decide)] at z; omega
  · intro d hd1 hd2 ih w0 f g e47 hK
    have hvb : tmV ac dn 0 d (d * ac) := Or.inr ⟨d, hd1, by omega, rfl⟩
    have hb := tmV_b (by omega) (by omega) (by omega) (by omega) hvb
    obtain ⟨w1, a1, a2, a3, a4, a5, a6, a7, a8⟩ := y_X8_comesTime w0 (d * ac) (by omega) (by have := hK.1; omega) hK.2.1 (fun i z1 z2 => by
      have := tmV_b (by omega) (by omega) (by omega) (by omega) (hK.2.2.1 i z1 z2); omega)
    have hK1 : tmK w1 ac dn (w 33 24) (d + 1 - 1) := tmK_add hK a4 a5 a6 a7 a8 (by omega) (fun u => by
      unfold tmV
      constructor
      · rintro (⟨e, e1, e2, e3⟩ | ⟨e, e1, e2, e3⟩)
        · left; left; exact ⟨e, e1, e2, e3⟩
        · by_cases he : e = d
          · right; rw [e3, he]
          · left; right; exact ⟨e, e1, by omega, e3⟩
      · rintro ((⟨e, e1, e2, e3⟩ | ⟨e, e1, e2, e3⟩) | e3)
        · left; exact ⟨e, e1, e2, e3⟩
        · right; exact ⟨e, e1, by omega, e3⟩
        · right; exact ⟨d, hd1, by omega, e3⟩)
    obtain ⟨w2, k1, k2⟩ := ih w1 (f.tr a2) (fun i h1 h2 => (a3 i h1).trans (g i h1 h2)) ((a3 47 (by decide)).trans e47) hK1
    refine ⟨w2, ?_, k2⟩
    apply tX8_laysTimes_61 w0 ac dn _ (mb w0 f g) (by omega) (fun _ => a1)
    · intro z; rw [g 25 (by decide) (by decide)] at z; omega
    · intro _; exact k1
theorem y_X8_midst (w : eW) (k : Int) (hk : 0 ≤ k ∧ k ≤ w 33 46) (hn : 1 ≤ w 33 46 ∧ w 33 46 ≤ 31) : Cal mX8_midst [eR 33, (0, k)] w (some (0, mdT (w 53) (w 33 46) k)) w := by
  refine Cal.of (by decide +kernel) (Nat.le_of_ble_eq_true rfl) ?_
  unfold mdT
  apply tX8_midst_0 w k hk hn
  · intro z; rw [if_pos z]; exact ⟨rfl, rfl⟩
  · intro z z2; rw [if_neg z, if_pos z2]; exact ⟨rfl, rfl⟩
  · intro z z2; rw [if_neg z, if_neg z2]; exact ⟨rfl, rfl⟩
