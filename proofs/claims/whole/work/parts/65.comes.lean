/-- strictly upwards -/
def srt (f : Int → Int) (n : Int) : Prop := ∀ i, 0 ≤ i → i + 1 < n → f i < f (i + 1)
theorem srt_lt {f : Int → Int} {n : Int} (h : srt f n) {i j : Int} (h1 : 0 ≤ i) (h2 : i < j) (h3 : j < n) : f i < f j := by
  have key : ∀ d : Nat, i + 1 + d < n → f i < f (i + 1 + d) := by
    intro d
    induction d with
    | zero => intro hd; rw [show i + 1 + ((0 : Nat) : Int) = i + 1 by omega]; exact h i h1 (by omega)
    | succ d ih =>
      intro hd
      have e1 := ih (by omega)
      have e2 := h (i + 1 + d) (by omega) (by omega)
      rw [show i + 1 + ((d + 1 : Nat) : Int) = i + 1 + d + 1 by omega]
      omega
  have := key (j - i - 1).toNat (by omega)
  rw [show i + 1 + ((j - i - 1).toNat : Int) = j by omega] at this
  exact this
theorem srt_inj {f : Int → Int} {n : Int} (h : srt f n) {i j : Int} (h1 : 0 ≤ i ∧ i < n) (h2 : 0 ≤ j ∧ j < n) (e : f i = f j) : i = j := by
  rcases Int.lt_trichotomy i j with q | q | q
  · have := srt_lt h h1.1 q h2.2; omega
  · exact q
  · have := srt_lt h h2.1 q h1.2; omega
/-- one comes in at k -/
def insF (f : Int → Int) (n k v : Int) : Int → Int := fun j => if j = k then v else if k < j ∧ j ≤ n then f (j - 1) else f j
theorem insF_srt {f : Int → Int} {n k v : Int} (h : srt f n) (hk : 0 ≤ k ∧ k ≤ n) (h1 : 0 < k → f (k - 1) < v) (h2 : k < n → v < f k) : srt (insF f n k v) (n + 1) := by
  intro i i1 i2
  unfold insF
  by_cases c1 : i = k
  · rw [if_pos c1, if_neg (by omega), if_pos (by omega), show i + 1 - 1 = k by omega]
    exact h2 (by omega)
  · rw [if_neg c1]
    by_cases c2 : k < i
    · rw [if_pos (by omega), if_neg (by omega), if_pos (by omega)]
      have := h (i - 1) (by omega) (by omega)
      rw [show i - 1 + 1 = i by omega] at this
      rw [show i + 1 - 1 = i by omega]
      exact this
    · rw [if_neg (by omega)]
      by_cases c3 : i + 1 = k
      · rw [if_pos c3]
        have := h1 (by omega)
        rw [show k - 1 = i by omega] at this
        exact this
      · rw [if_neg c3, if_neg (by omega)]
        exact h i i1 (by omega)
theorem y_X8_comes45 (w : eW) (n v b m : Int) (hv : eI v) (hn : 0 ≤ n ∧ n ≤ 29) (hs : srt (w 45) n) (he : ∀ i, 0 ≤ i → i < n → eI (w 45 i)) : ∃ w1 n1, Cal mX8_comes [eR 33, eR 45, eR 46, eR 47, (0, n), (0, v), (0, b), (0, m)] w (some (0, n1)) w1 ∧ Fr [45, 46, 47] w w1 ∧ (n ≤ n1 ∧ n1 ≤ n + 1) ∧ srt (w1 45) n1 ∧ (∀ i, 0 ≤ i → i < n → ∃ j, 0 ≤ j ∧ j < n1 ∧ w1 45 j = w 45 i) ∧ (∃ j, 0 ≤ j ∧ j < n1 ∧ w1 45 j = v) ∧ ∀ E : Int → Int → Int → Prop, (∀ i, 0 ≤ i → i < n → E (w 45 i) (w 46 i) (w 47 i)) → E v b m → ∀ j, 0 ≤ j → j < n1 → E (w1 45 j) (w1 46 j) (w1 47 j) := by
  -- where it comes
  have find := loop_up (P := fun d => (∀ i, n - d ≤ i → i < n → v ≤ w 45 i) → ∃ k, (0 ≤ k ∧ k ≤ n) ∧ (∀ i, k ≤ i → i < n → v ≤ w 45 i) ∧ (0 < k → w 45 (k - 1) < v) ∧ ∀ (r : Option eV) (w9 : eW), Go mX8_comes 26 [(0, eR 33), (1, eR 45), (2, eR 46), (3, eR 47), (4, (0, n)), (5, (0, v)), (6, (0, b)), (7, (0, m)), (8, (0, k))] [] w r w9 → Go mX8_comes 4 [(0, eR 33), (1, eR 45), (2, eR 46), (3, eR 47), (4, (0, n)), (5, (0, v)), (6, (0, b)), (7, (0, m)), (8, (0, n - d))] [] w r w9) 0 n ?_ ?_ 0 (by omega) (by omega) (fun i h1 h2 => by omega)
  · obtain ⟨k, hk, k1, k2, k3⟩ := find
    rw [show n - 0 = n by omega] at k3
    by_cases hc : k < n ∧ w 45 k = v
    · refine ⟨w, n, Cal.of (by decide +kernel) (Nat.le_of_ble_eq_true rfl) (tX8_comes45_0 w n v b m (k3 _ _ ?_)), Fr.rf, by omega, hs, fun i h1 h2 => ⟨i, h1, h2, rfl⟩, ⟨k, hk.1, hc.1, hc.2⟩, fun E h1 h2 j h3 h4 => h1 j h3 h4⟩
      apply tX8_comes45_26 w n v b m k hv hn hk (fun z => he k hk.1 z)
      · intro _ _; exact ⟨rfl, rfl⟩
      · intro _ z; exact absurd hc.2 z
      · intro z; exact absurd hc.1 z
    · have shift := loop_up (P := fun d => ∀ w0, Fr [45, 46, 47] w w0 → (∀ j, w0 45 j = if n - d < j ∧ j ≤ n then w 45 (j - 1) else w 45 j) → (∀ j, w0 46 j = if n - d < j ∧ j ≤ n then w 46 (j - 1) else w 46 j) → (∀ j, w0 47 j = if n - d < j ∧ j ≤ n then w 47 (j - 1) else w 47 j) → ∃ w1, Go mX8_comes 49 [(0, eR 33), (1, eR 45), (2, eR 46), (3, eR 47), (4, (0, n)), (5, (0, v)), (6, (0, b)), (7, (0, m)), (8, (0, k)), (9, (0, n - d))] [] w0 (some (0, n + 1)) w1 ∧ Fr [45, 46, 47] w w1 ∧ w1 45 = insF (w 45) n k v ∧ w1 46 = insF (w 46) n k b ∧ w1 47 = insF (w 47) n k m) 0 (n - k) ?_ ?_ 0 (by omega) (by omega) w Fr.rf (fun j => by rw [if_neg (by omega)]) (fun j => by rw [if_neg (by omega)]) (fun j => by rw [if_neg (by omega)])
      · obtain ⟨w1, g1, g2, g3, g4, g5⟩ := shift
        rw [show n - 0 = n by omega] at g1
        refine ⟨w1, n + 1, Cal.of (by decide +kernel) (Nat.le_of_ble_eq_true rfl) (tX8_comes45_0 w n v b m (k3 _ _ ?_)), g2, by omega, ?_, fun i h1 h2 => ?_, ⟨k, hk.1, by omega, ?_⟩, fun E h1 h2 j h3 h4 => ?_⟩
        · apply tX8_comes45_26 w n v b m k hv hn hk (fun z => he k hk.1 z)
          · intro z1 z2; exact absurd ⟨z1, z2⟩ hc
          · intro _ _; exact g1
          · intro _; exact g1
        · rw [g3]
          refine insF_srt hs hk k2 (fun z => ?_)
          have := k1 k (by omega) z
          have : ¬ w 45 k = v := fun q => hc ⟨z, q⟩
          omega
        · rw [g3]
          unfold insF
          by_cases hi : i < k
          · exact ⟨i, h1, by omega, by rw [if_neg (by omega), if_neg (by omega)]⟩
          · exact ⟨i + 1, by omega, by omega, by rw [if_neg (by omega), if_pos (by omega), show i + 1 - 1 = i by omega]⟩
        · rw [g3]
          unfold insF
          rw [if_pos rfl]
        · rw [g3, g4, g5]
          unfold insF
          by_cases c1 : j = k
          · rw [if_pos c1, if_pos c1, if_pos c1]; exact h2
          · rw [if_neg c1, if_neg c1, if_neg c1]
            by_cases c2 : k < j ∧ j ≤ n
            · rw [if_pos c2, if_pos c2, if_pos c2]; exact h1 (j - 1) (by omega) (by omega)
            · rw [if_neg c2, if_neg c2, if_neg c2]; exact h1 j h3 (by omega)
      · intro w0 f0 s1 s2 s3
        refine ⟨eU (eU (eU w0 45 k v) 46 k b) 47 k m, ?_, ((f0.put (by decide)).put (by decide)).put (by decide), ?_, ?_, ?_⟩
        · rw [show n - (n - k) = k by omega]
          apply tX8_comes45_49 w0 n v b m k k hn (by omega) (by omega)
          · intro z; omega
          · intro _; exact ⟨rfl, rfl⟩
        · rw [eU_ne (by decide), eU_ne (by decide), eU_at]
          funext j
          unfold insF
          rw [s1 j, show n - (n - k) = k by omega]
        · rw [eU_ne (by decide), eU_at]
          funext j
          unfold insF
          rw [eU_ne (by decide), s2 j, show n - (n - k) = k by omega]
        · rw [eU_at]
          funext j
          unfold insF
          rw [eU_ne (by decide), eU_ne (by decide), s3 j, show n - (n - k) = k by omega]
      · intro d hd1 hd2 ih w0 f0 s1 s2 s3
        have st : ∀ (f g : Int → Int), (∀ j, g j = if n - d < j ∧ j ≤ n then f (j - 1) else f j) → ∀ j, (if j = n - d then g (n - d - 1) else g j) = if n - (d + 1) < j ∧ j ≤ n then f (j - 1) else f j := by
          intro f g hfg j
          by_cases hj : j = n - d
          · rw [if_pos hj, if_pos (by omega), hfg, if_neg (by omega), hj]
          · rw [if_neg hj, hfg]
            by_cases hc : n - d < j ∧ j ≤ n
            · rw [if_pos hc, if_pos (by omega)]
            · rw [if_neg hc, if_neg (by omega)]
        obtain ⟨w1, g1, g2⟩ := ih (eU (eU (eU w0 45 (n - d) (w0 45 (n - d - 1))) 46 (n - d) (w0 46 (n - d - 1))) 47 (n - d) (w0 47 (n - d - 1))) (((f0.put (by decide)).put (by decide)).put (by decide)) (fun j => by rw [eU_ne (by decide), eU_ne (by decide), eU_get]; exact st _ _ s1 j) (fun j => by rw [eU_ne (by decide), eU_get, eU_ne (by decide)]; exact st _ _ s2 j) (fun j => by rw [eU_get, eU_ne (by decide), eU_ne (by decide)]; exact st _ _ s3 j)
        refine ⟨w1, ?_, g2⟩
        rw [show n - (d + 1) = n - d + (-1) by omega] at g1
        apply tX8_comes45_49 w0 n v b m k _ hn (by omega) (by omega)
        · intro _; exact g1
        · intro z; omega
  · intro h
    refine ⟨0, by omega, fun i h1 h2 => h i (by omega) h2, fun z => absurd z (by decide), fun r w9 q => ?_⟩
    rw [show n - n = 0 by omega]
    apply tX8_comes45_4 w n v b m 0 hv hn (by omega) (fun z => absurd z (by decide))
    · intro z; exact absurd z (by decide)
    · intro z; exact absurd z (by decide)
    · intro _; exact q
  · intro d hd1 hd2 ih h
    by_cases hc : w 45 (n - d - 1) < v
    · refine ⟨n - d, by omega, h, fun _ => hc, fun r w9 q => ?_⟩
      apply tX8_comes45_4 w n v b m _ hv hn (by omega) (fun _ => he _ (by omega) (by omega))
      · intro _ _; exact q
      · intro _ z; exact absurd hc z
      · intro z; omega
    · obtain ⟨k, k0, k1, k2, k3⟩ := ih (fun i h1 h2 => by
        by_cases hi : i = n - d - 1
        · rw [hi]; omega
        · exact h i (by omega) h2)
      refine ⟨k, k0, k1, k2, fun r w9 q => ?_⟩
      have q2 := k3 r w9 q
      rw [show n - (d + 1) = n - d + (-1) by omega] at q2
      apply tX8_comes45_4 w n v b m _ hv hn (by omega) (fun _ => he _ (by omega) (by omega))
      · intro _ z; exact absurd z hc
      · intro _ _; exact q2
      · intro z; omega
theorem y_X8_comes48 (w : eW) (n v b m : Int) (hv : eI v) (hn : 0 ≤ n ∧ n ≤ 29) (hs : srt (w 48) n) (he : ∀ i, 0 ≤ i → i < n → eI (w 48 i)) : ∃ w1 n1, Cal mX8_comes [eR 33, eR 48, eR 49, eR 50, (0, n), (0, v), (0, b), (0, m)] w (some (0, n1)) w1 ∧ Fr [48, 49, 50] w w1 ∧ (n ≤ n1 ∧ n1 ≤ n + 1) ∧ srt (w1 48) n1 ∧ (∀ i, 0 ≤ i → i < n → ∃ j, 0 ≤ j ∧ j < n1 ∧ w1 48 j = w 48 i) ∧ (∃ j, 0 ≤ j ∧ j < n1 ∧ w1 48 j = v) ∧ ∀ E : Int → Int → Int → Prop, (∀ i, 0 ≤ i → i < n → E (w 48 i) (w 49 i) (w 50 i)) → E v b m → ∀ j, 0 ≤ j → j < n1 → E (w1 48 j) (w1 49 j) (w1 50 j) := by
  -- where it comes
  have find := loop_up (P := fun d => (∀ i, n - d ≤ i → i < n → v ≤ w 48 i) → ∃ k, (0 ≤ k ∧ k ≤ n) ∧ (∀ i, k ≤ i → i < n → v ≤ w 48 i) ∧ (0 < k → w 48 (k - 1) < v) ∧ ∀ (r : Option eV) (w9 : eW), Go mX8_comes 26 [(0, eR 33), (1, eR 48), (2, eR 49), (3, eR 50), (4, (0, n)), (5, (0, v)), (6, (0, b)), (7, (0, m)), (8, (0, k))] [] w r w9 → Go mX8_comes 4 [(0, eR 33), (1, eR 48), (2, eR 49), (3, eR 50), (4, (0, n)), (5, (0, v)), (6, (0, b)), (7, (0, m)), (8, (0, n - d))] [] w r w9) 0 n ?_ ?_ 0 (by omega) (by omega) (fun i h1 h2 => by omega)
  · obtain ⟨k, hk, k1, k2, k3⟩ := find
    rw [show n - 0 = n by omega] at k3
    by_cases hc : k < n ∧ w 48 k = v
    · refine ⟨w, n, Cal.of (by decide +kernel) (Nat.le_of_ble_eq_true rfl) (tX8_comes48_0 w n v b m (k3 _ _ ?_)), Fr.rf, by omega, hs, fun i h1 h2 => ⟨i, h1, h2, rfl⟩, ⟨k, hk.1, hc.1, hc.2⟩, fun E h1 h2 j h3 h4 => h1 j h3 h4⟩
      apply tX8_comes48_26 w n v b m k hv hn hk (fun z => he k hk.1 z)
      · intro _ _; exact ⟨rfl, rfl⟩
      · intro _ z; exact absurd hc.2 z
      · intro z; exact absurd hc.1 z
    · have shift := loop_up (P := fun d => ∀ w0, Fr [48, 49, 50] w w0 → (∀ j, w0 48 j = if n - d < j ∧ j ≤ n then w 48 (j - 1) else w 48 j) → (∀ j, w0 49 j = if n - d < j ∧ j ≤ n then w 49 (j - 1) else w 49 j) → (∀ j, w0 50 j = if n - d < j ∧ j ≤ n then w 50 (j - 1) else w 50 j) → ∃ w1, Go mX8_comes 49 [(0, eR 33), (1, eR 48), (2, eR 49), (3, eR 50), (4, (0, n)), (5, (0, v)), (6, (0, b)), (7, (0, m)), (8, (0, k)), (9, (0, n - d))] [] w0 (some (0, n + 1)) w1 ∧ Fr [48, 49, 50] w w1 ∧ w1 48 = insF (w 48) n k v ∧ w1 49 = insF (w 49) n k b ∧ w1 50 = insF (w 50) n k m) 0 (n - k) ?_ ?_ 0 (by omega) (by omega) w Fr.rf (fun j => by rw [if_neg (by omega)]) (fun j => by rw [if_neg (by omega)]) (fun j => by rw [if_neg (by omega)])
      · obtain ⟨w1, g1, g2, g3, g4, g5⟩ := shift
        rw [show n - 0 = n by omega] at g1
        refine ⟨w1, n + 1, Cal.of (by decide +kernel) (Nat.le_of_ble_eq_true rfl) (tX8_comes48_0 w n v b m (k3 _ _ ?_)), g2, by omega, ?_, fun i h1 h2 => ?_, ⟨k, hk.1, by omega, ?_⟩, fun E h1 h2 j h3 h4 => ?_⟩
        · apply tX8_comes48_26 w n v b m k hv hn hk (fun z => he k hk.1 z)
          · intro z1 z2; exact absurd ⟨z1, z2⟩ hc
          · intro _ _; exact g1
          · intro _; exact g1
        · rw [g3]
          refine insF_srt hs hk k2 (fun z => ?_)
          have := k1 k (by omega) z
          have : ¬ w 48 k = v := fun q => hc ⟨z, q⟩
          omega
        · rw [g3]
          unfold insF
          by_cases hi : i < k
          · exact ⟨i, h1, by omega, by rw [if_neg (by omega), if_neg (by omega)]⟩
          · exact ⟨i + 1, by omega, by omega, by rw [if_neg (by omega), if_pos (by omega), show i + 1 - 1 = i by omega]⟩
        · rw [g3]
          unfold insF
          rw [if_pos rfl]
        · rw [g3, g4, g5]
          unfold insF
          by_cases c1 : j = k
          · rw [if_pos c1, if_pos c1, if_pos c1]; exact h2
          · rw [if_neg c1, if_neg c1, if_neg c1]
            by_cases c2 : k < j ∧ j ≤ n
            · rw [if_pos c2, if_pos c2, if_pos c2]; exact h1 (j - 1) (by omega) (by omega)
            · rw [if_neg c2, if_neg c2, if_neg c2]; exact h1 j h3 (by omega)
      · intro w0 f0 s1 s2 s3
        refine ⟨eU (eU (eU w0 48 k v) 49 k b) 50 k m, ?_, ((f0.put (by decide)).put (by decide)).put (by decide), ?_, ?_, ?_⟩
        · rw [show n - (n - k) = k by omega]
          apply tX8_comes48_49 w0 n v b m k k hn (by omega) (by omega)
          · intro z; omega
          · intro _; exact ⟨rfl, rfl⟩
        · rw [eU_ne (by decide), eU_ne (by decide), eU_at]
          funext j
          unfold insF
          rw [s1 j, show n - (n - k) = k by omega]
        · rw [eU_ne (by decide), eU_at]
          funext j
          unfold insF
          rw [eU_ne (by decide), s2 j, show n - (n - k) = k by omega]
        · rw [eU_at]
          funext j
          unfold insF
          rw [eU_ne (by decide), eU_ne (by decide), s3 j, show n - (n - k) = k by omega]
      · intro d hd1 hd2 ih w0 f0 s1 s2 s3
        have st : ∀ (f g : Int → Int), (∀ j, g j = if n - d < j ∧ j ≤ n then f (j - 1) else f j) → ∀ j, (if j = n - d then g (n - d - 1) else g j) = if n - (d + 1) < j ∧ j ≤ n then f (j - 1) else f j := by
          intro f g hfg j
          by_cases hj : j = n - d
          · rw [if_pos hj, if_pos (by omega), hfg, if_neg (by omega), hj]
          · rw [if_neg hj, hfg]
            by_cases hc : n - d < j ∧ j ≤ n
            · rw [if_pos hc, if_pos (by omega)]
            · rw [if_neg hc, if_neg (by omega)]
        obtain ⟨w1, g1, g2⟩ := ih (eU (eU (eU w0 48 (n - d) (w0 48 (n - d - 1))) 49 (n - d) (w0 49 (n - d - 1))) 50 (n - d) (w0 50 (n - d - 1))) (((f0.put (by decide)).put (by decide)).put (by decide)) (fun j => by rw [eU_ne (by decide), eU_ne (by decide), eU_get]; exact st _ _ s1 j) (fun j => by rw [eU_ne (by decide), eU_get, eU_ne (by decide)]; exact st _ _ s2 j) (fun j => by rw [eU_get, eU_ne (by decide), eU_ne (by decide)]; exact st _ _ s3 j)
        refine ⟨w1, ?_, g2⟩
        rw [show n - (d + 1) = n - d + (-1) by omega] at g1
        apply tX8_comes48_49 w0 n v b m k _ hn (by omega) (by omega)
        · intro _; exact g1
        · intro z; omega
  · intro h
    refine ⟨0, by omega, fun i h1 h2 => h i (by omega) h2, fun z => absurd z (by decide), fun r w9 q => ?_⟩
    rw [show n - n = 0 by omega]
    apply tX8_comes48_4 w n v b m 0 hv hn (by omega) (fun z => absurd z (by decide))
    · intro z; exact absurd z (by decide)
    · intro z; exact absurd z (by decide)
    · intro _; exact q
  · intro d hd1 hd2 ih h
    by_cases hc : w 48 (n - d - 1) < v
    · refine ⟨n - d, by omega, h, fun _ => hc, fun r w9 q => ?_⟩
      apply tX8_comes48_4 w n v b m _ hv hn (by omega) (fun _ => he _ (by omega) (by omega))
      · intro _ _; exact q
      · intro _ z; exact absurd hc z
      · intro z; omega
    · obtain ⟨k, k0, k1, k2, k3⟩ := ih (fun i h1 h2 => by
        by_cases hi : i = n - d - 1
        · rw [hi]; omega
        · exact h i (by omega) h2)
      refine ⟨k, k0, k1, k2, fun r w9 q => ?_⟩
      have q2 := k3 r w9 q
      rw [show n - (d + 1) = n - d + (-1) by omega] at q2
      apply tX8_comes48_4 w n v b m _ hv hn (by omega) (fun _ => he _ (by omega) (by omega))
      · intro _ z; exact absurd z hc
      · intro _ _; exact q2
      · intro z; omega
/-- the cell x, y isn't inside, and has come over the place -/
def cvP (w : eW) (mx my p q x y : Int) : Prop := -1 ≤ x ∧ x ≤ w 33 24 ∧ -1 ≤ y ∧ y ≤ w 33 25 ∧ ¬ insM w x y ∧ ¬ my < 2 * (y * q - w 38 142 * p) ∧ ¬ 2 * ((y + 1) * q + w 38 140 * p) < my ∧ 2 * (x * q - w 38 141 * p) < mx ∧ mx < 2 * ((x + 1) * q + w 38 143 * p)
theorem y_X8_isCovered (w : eW) (mx my p q : Int) (hM : MB w) (hsp : ∀ k, 140 ≤ k → k < 144 → 1 ≤ w 38 k ∧ w 38 k ≤ 9) (hp : 0 ≤ p ∧ p ≤ 10000) (hq : 1 ≤ q ∧ q ≤ 10000) (hx : -1000000 ≤ mx ∧ mx ≤ 1000000) (hy0 : -1000000 ≤ my ∧ my ≤ 1000000) : Cal mX8_isCovered [eR 33, (1, mx), (1, my), (0, p), (0, q)] w (some (0, bI (∃ x y, cvP w mx my p q x y))) w := by
  obtain ⟨⟨c1, c2, c3, c4, c5, c6, c7, c8, c9, c10⟩, c11, c12, c13⟩ := id hM
  have key := loop_up (P := fun y => (∀ x' y', y' < y → ¬ cvP w mx my p q x' y') → Go mX8_isCovered 3 [(0, eR 33), (1, (1, mx)), (3, (1, my)), (5, (0, p)), (6, (0, q)), (7, (0, y))] [] w (some (0, bI (∃ x y, cvP w mx my p q x y))) w) (-1) (w 33 25 + 1) ?_ ?_ (-1) (by omega) (by omega) (fun x' y' h1 h2 => by have := h2.2.2.1; omega)
  · exact Cal.of (by decide +kernel) (Nat.le_of_ble_eq_true rfl) (tX8_isCovered_0 w mx my p q key)
  · intro hno
    rw [bI_0 (fun ⟨x, y, z⟩ => hno x y (by have := z.2.2.2.1; omega) z)]
    apply tX8_isCovered_3 w mx my p q _ hM hsp hp hq hx hy0 (by omega)
    · intro _; exact ⟨rfl, rfl⟩
    all_goals (intro z; omega)
  · intro y hy1 hy2 ih hno
    by_cases hc : my < 2 * (y * q - w 38 142 * p) ∨ 2 * ((y + 1) * q + w 38 140 * p) < my
    · have ih2 := ih (fun x' y' h1 h2 => by
        by_cases hy : y' = y
        · rw [hy] at h2
          rcases hc with hc | hc
          · exact h2.2.2.2.2.2.1 hc
          · exact h2.2.2.2.2.2.2.1 hc
        · exact hno x' y' (by omega) h2)
      apply tX8_isCovered_3 w mx my p q _ hM hsp hp hq hx hy0 (by omega)
      · intro z; omega
      · intro _ _; exact ih2
      · intro _ _ _; exact ih2
      · intro _ z1 z2; omega
    · have row := loop_up (P := fun x => (∀ x', x' < x → ¬ cvP w mx my p q x' y) → Go mX8_isCovered 74 [(0, eR 33), (1, (1, mx)), (3, (1, my)), (5, (0, p)), (6, (0, q)), (7, (0, y)), (8, (0, x))] [] w (some (0, bI (∃ x y, cvP w mx my p q x y))) w) (-1) (w 33 24 + 1) ?_ ?_ (-1) (by omega) (by omega) (fun x' h1 h2 => by have := h2.1; omega)
      · apply tX8_isCovered_3 w mx my p q _ hM hsp hp hq hx hy0 (by omega)
        · intro z; omega
        · intro _ z; omega
        · intro _ _ z; omega
        · intro _ _ _; exact row
      · intro hno2
        have ih2 := ih (fun x' y' h1 h2 => by
          by_cases hy : y' = y
          · rw [hy] at h2
            exact hno2 x' (by have := h2.2.1; omega) h2
          · exact hno x' y' (by omega) h2)
        apply tX8_isCovered_74 w mx my p q _ _ hM hsp hp hq hx hy0 (by omega) (by omega)
        · intro _; exact ih2
        all_goals (intro z; omega)
      · intro x hx1 hx2 ihx hno2
        by_cases hcv : cvP w mx my p q x y
        · rw [bI_1 ⟨x, y, hcv⟩]
          obtain ⟨e1, e2, e3, e4, e5, e6, e7, e8, e9⟩ := hcv
          apply tX8_isCovered_74 w mx my p q _ _ hM hsp hp hq hx hy0 (by omega) (by omega)
          · intro z; omega
          · intro _ z; exact absurd z e5
          · intro _ _ _ _; exact ⟨rfl, rfl⟩
          · intro _ _ _ z; exact absurd e9 z
          · intro _ _ z; exact absurd e8 z
        · have ih3 := ihx (fun x' h1 h2 => by
            by_cases hxx : x' = x
            · rw [hxx] at h2; exact hcv h2
            · exact hno2 x' (by omega) h2)
          apply tX8_isCovered_74 w mx my p q _ _ hM hsp hp hq hx hy0 (by omega) (by omega)
          · intro z; omega
          · intro _ _; exact ih3
          · intro z1 z2 z3 z4; exact absurd ⟨hx1, by omega, hy1, by omega, z2, fun z => hc (Or.inl z), fun z => hc (Or.inr z), z3, z4⟩ hcv
          · intro _ _ _ _; exact ih3
          · intro _ _ _; exact ih3
