theorem e_prod {a b : Int} (ha : -300 ≤ a ∧ a ≤ 300) (hb : 0 ≤ b ∧ b ≤ 2520) : eI (a * b) := by
  have h1 : a * b ≤ 300 * 2520 := by
    rcases Int.le_total 0 a with h | h
    · exact Int.mul_le_mul ha.2 hb.2 hb.1 (by decide)
    · have : a * b ≤ 0 := Int.mul_nonpos_of_nonpos_of_nonneg h hb.1
      omega
  have h2 : -(300 * 2520) ≤ a * b := by
    rcases Int.le_total 0 a with h | h
    · have := Int.mul_nonneg h hb.1
      omega
    · have h3 : (-a) * b ≤ 300 * 2520 := Int.mul_le_mul (by omega) hb.2 hb.1 (by decide)
      rw [Int.neg_mul] at h3
      omega
  exact ⟨by omega, by omega⟩
theorem n1_zero {place ahead behind i : Int} (h1 : 4 * i ≤ place) (h2 : place ≤ 4 * (i + 1)) : n1 place ahead behind i = 0 := by
  unfold n1
  rw [if_neg (by omega), if_neg (by omega)]
  rfl
theorem n1_up {place ahead behind i : Int} (ha : 0 ≤ ahead) (h1 : place < 4 * i) : n1 place ahead behind i = (4 * i - place) * ahead := by
  unfold n1
  rw [if_pos (by omega), if_neg (by omega)]
  have : 0 ≤ (4 * i - place) * ahead := Int.mul_nonneg (by omega) ha
  omega
theorem n1_down {place ahead behind i : Int} (hb : 0 ≤ behind) (h1 : 4 * (i + 1) < place) : n1 place ahead behind i = (place - 4 * (i + 1)) * behind := by
  unfold n1
  rw [if_neg (by omega), if_pos (by omega)]
  have : 0 ≤ (place - 4 * (i + 1)) * behind := Int.mul_nonneg (by omega) hb
  omega
theorem y_X5_nearestTime (w : eW) (lane place ahead behind : Int) (hb : 0 ≤ lane ∧ lane < 16384) (hp : 0 ≤ place ∧ place ≤ 56) (ha : 0 ≤ ahead ∧ ahead ≤ 2520) (hbh : 0 ≤ behind ∧ behind ≤ 2520) : ∃ t, isN lane place ahead behind t ∧ Cal mX5_nearestTime [(0, lane), (0, place), (0, ahead), (0, behind)] w (some (0, t)) w := by
  -- the second loop
  have down : ∀ en bf : Int, -20 ≤ en ∧ en ≤ 40 → -1 ≤ bf ∧ bf ≤ 14 → ∃ st, -1 ≤ st ∧ st ≤ bf ∧ ¬ hb14 lane st ∧ (∀ j, st < j → j ≤ bf → hb14 lane j) ∧ Go mX5_nearestTime 81 [(0, (0, lane)), (1, (0, place)), (2, (0, ahead)), (3, (0, behind)), (6, (0, en)), (7, (0, bf)), (8, (0, 0))] [] w (some (0, min ((4 * en - place) * ahead) ((place - 4 * (st + 1)) * behind))) w := by
    intro en bf he hbf
    have key := loop_up (P := fun k => (∀ j, bf - k < j → j ≤ bf → hb14 lane j) → ∃ st, -1 ≤ st ∧ st ≤ bf ∧ ¬ hb14 lane st ∧ (∀ j, st < j → j ≤ bf → hb14 lane j) ∧ Go mX5_nearestTime 81 [(0, (0, lane)), (1, (0, place)), (2, (0, ahead)), (3, (0, behind)), (6, (0, en)), (7, (0, bf - k)), (8, (0, k))] [] w (some (0, min ((4 * en - place) * ahead) ((place - 4 * (st + 1)) * behind))) w) 0 14 ?_ ?_ 0 (by omega) (by omega) (fun j h1 h2 => by omega)
    · obtain ⟨st, k1, k2, k3, k4, k5⟩ := key
      rw [show bf - 0 = bf by omega] at k5
      exact ⟨st, k1, k2, k3, k4, k5⟩
    · intro hall
      have hbf2 : bf ≤ 13 := by
        rcases Int.lt_or_le bf 14 with h | h
        · omega
        · have := hall bf (by omega) (by omega); omega
      have h13 : bf = 13 := by
        rcases Int.lt_or_le bf 13 with h | h
        · have := hall (bf - 13) (by omega) (by omega); omega
        · omega
      refine ⟨bf - 14, by omega, by omega, fun z => by omega, hall, ?_⟩
      apply tX5_nearestTime_81 w _ _ _ _ _ _ _ hb hp (by omega) (by omega) (e_prod (by omega) ha) (e_prod (by omega) hbh)
      · intro h; omega
      · intro h; omega
      · intro _; exact ⟨rfl, rfl⟩
    · intro k hk1 hk2 ih hall
      by_cases hset : hb14 lane (bf - k)
      · obtain ⟨st, k1, k2, k3, k4, k5⟩ := ih (fun j h1 h2 => by
          by_cases hj : j = bf - k
          · rw [hj]; exact hset
          · exact hall j (by omega) h2)
        refine ⟨st, k1, k2, k3, k4, ?_⟩
        rw [show bf - (k + 1) = bf - k + -1 by omega] at k5
        apply tX5_nearestTime_81 w _ _ _ _ _ _ _ hb hp (by omega) (by omega) (e_prod (by omega) ha) (e_prod (by omega) hbh)
        · intro _ _; exact k5
        · intro _ z; exact absurd hset z
        · intro h; omega
      · have hge : -1 ≤ bf - k := by
          rcases Int.lt_or_le (bf - k) (-1) with h | h
          · have := hall (-1) (by omega) (by omega); omega
          · exact h
        refine ⟨bf - k, hge, by omega, hset, hall, ?_⟩
        apply tX5_nearestTime_81 w _ _ _ _ _ _ _ hb hp (by omega) (by omega) (e_prod (by omega) ha) (e_prod (by omega) hbh)
        · intro _ z; exact absurd z hset
        · intro _ _; exact ⟨rfl, rfl⟩
        · intro _; exact ⟨rfl, rfl⟩
  -- the first loop
  have up : ∀ af bf : Int, 0 ≤ af ∧ af ≤ 14 → -1 ≤ bf ∧ bf ≤ 14 → ∃ en st, af ≤ en ∧ en ≤ 14 ∧ ¬ hb14 lane en ∧ (∀ j, af ≤ j → j < en → hb14 lane j) ∧ -1 ≤ st ∧ st ≤ bf ∧ ¬ hb14 lane st ∧ (∀ j, st < j → j ≤ bf → hb14 lane j) ∧ Go mX5_nearestTime 49 [(0, (0, lane)), (1, (0, place)), (2, (0, ahead)), (3, (0, behind)), (5, (0, bf)), (6, (0, af)), (7, (0, 0))] [] w (some (0, min ((4 * en - place) * ahead) ((place - 4 * (st + 1)) * behind))) w := by
    intro af bf haf hbf
    have key := loop_up (P := fun k => (∀ j, af ≤ j → j < af + k → hb14 lane j) → ∃ en st, af ≤ en ∧ en ≤ 14 ∧ ¬ hb14 lane en ∧ (∀ j, af ≤ j → j < en → hb14 lane j) ∧ -1 ≤ st ∧ st ≤ bf ∧ ¬ hb14 lane st ∧ (∀ j, st < j → j ≤ bf → hb14 lane j) ∧ Go mX5_nearestTime 49 [(0, (0, lane)), (1, (0, place)), (2, (0, ahead)), (3, (0, behind)), (5, (0, bf)), (6, (0, af + k)), (7, (0, k))] [] w (some (0, min ((4 * en - place) * ahead) ((place - 4 * (st + 1)) * behind))) w) 0 14 ?_ ?_ 0 (by omega) (by omega) (fun j h1 h2 => by omega)
    · rw [show af + 0 = af by omega] at key
      exact key
    · intro hall
      have h0 : af = 0 := by
        rcases Int.lt_or_le 0 af with h | h
        · have := hall (af + 13) (by omega) (by omega); omega
        · omega
      obtain ⟨st, k1, k2, k3, k4, k5⟩ := down (af + 14) bf (by omega) hbf
      refine ⟨af + 14, st, by omega, by omega, fun z => by omega, hall, k1, k2, k3, k4, ?_⟩
      apply tX5_nearestTime_49 w _ _ _ _ _ _ _ hb hp (by omega) (by omega)
      · intro h; omega
      · intro h; omega
      · intro _; exact k5
    · intro k hk1 hk2 ih hall
      by_cases hset : hb14 lane (af + k)
      · obtain ⟨en, st, m1, m2, m3, m4, k1, k2, k3, k4, k5⟩ := ih (fun j h1 h2 => by
          by_cases hj : j = af + k
          · rw [hj]; exact hset
          · exact hall j h1 (by omega))
        refine ⟨en, st, m1, m2, m3, m4, k1, k2, k3, k4, ?_⟩
        rw [show af + (k + 1) = af + k + 1 by omega] at k5
        apply tX5_nearestTime_49 w _ _ _ _ _ _ _ hb hp (by omega) (by omega)
        · intro _ _; exact k5
        · intro _ z; exact absurd hset z
        · intro h; omega
      · have hle : af + k ≤ 14 := by
          rcases Int.lt_or_le 14 (af + k) with h | h
          · have := hall 14 (by omega) (by omega); omega
          · exact h
        obtain ⟨st, k1, k2, k3, k4, k5⟩ := down (af + k) bf (by omega) hbf
        refine ⟨af + k, st, by omega, hle, hset, hall, k1, k2, k3, k4, ?_⟩
        apply tX5_nearestTime_49 w _ _ _ _ _ _ _ hb hp (by omega) (by omega)
        · intro _ z; exact absurd z hset
        · intro _ _; exact k5
        · intro _; exact k5
  have fin : ∀ en st af bf : Int, af = place / 4 → (bf = af ∨ (bf = af - 1 ∧ place % 4 = 0)) → hb14 lane af → hb14 lane bf → af ≤ en → en ≤ 14 → ¬ hb14 lane en → (∀ j, af ≤ j → j < en → hb14 lane j) → -1 ≤ st → st ≤ bf → ¬ hb14 lane st → (∀ j, st < j → j ≤ bf → hb14 lane j) → isN lane place ahead behind (min ((4 * en - place) * ahead) ((place - 4 * (st + 1)) * behind)) := by
    intro en st af bf e1 e2 s1 s2 m1 m2 m3 m4 k1 k2 k3 k4
    have hen : af < en := by
      rcases Int.lt_or_le af en with h | h
      · exact h
      · exact absurd s1 (by rw [show af = en by omega]; exact m3)
    have hst : st < bf := by
      rcases Int.lt_or_le st bf with h | h
      · exact h
      · exact absurd s2 (by rw [show bf = st by omega]; exact k3)
    have v1 := n1_up (place := place) (behind := behind) (i := en) ha.1 (by omega)
    have v2 : n1 place ahead behind st = (place - 4 * (st + 1)) * behind := by
      rcases Int.lt_or_le (4 * (st + 1)) place with h | h
      · exact n1_down hbh.1 h
      · rw [n1_zero (by omega) h, show place - 4 * (st + 1) = 0 by omega, Int.zero_mul]
    refine ⟨?_, fun i hi => ?_⟩
    · rcases Int.le_total ((4 * en - place) * ahead) ((place - 4 * (st + 1)) * behind) with h | h
      · exact ⟨en, by omega, by omega, m3, by omega⟩
      · exact ⟨st, by omega, by omega, k3, by omega⟩
    · rcases Int.lt_or_le i en with h | h
      · have hile : i ≤ st := by
          rcases Int.lt_or_le st i with h2 | h2
          · exfalso
            rcases Int.lt_or_le bf i with h3 | h3
            · exact hi (m4 i (by omega) h)
            · exact hi (k4 i h2 h3)
          · exact h2
        have : (place - 4 * (st + 1)) * behind ≤ n1 place ahead behind i := by
          rcases Int.lt_or_le (4 * (i + 1)) place with h3 | h3
          · rw [n1_down hbh.1 h3]
            exact Int.mul_le_mul_of_nonneg_right (by omega) hbh.1
          · have : place - 4 * (st + 1) = 0 ∨ place - 4 * (st + 1) < 0 := by omega
            have h5 : (place - 4 * (st + 1)) * behind ≤ 0 := Int.mul_nonpos_of_nonpos_of_nonneg (by omega) hbh.1
            have := n1_0 place ha.1 hbh.1 i
            omega
        omega
      · have : (4 * en - place) * ahead ≤ n1 place ahead behind i := by
          rw [n1_up ha.1 (by omega)]
          exact Int.mul_le_mul_of_nonneg_right (by omega) ha.1
        omega
  have zero : ∀ i, -1 ≤ i → i ≤ 14 → ¬ hb14 lane i → 4 * i ≤ place → place ≤ 4 * (i + 1) → isN lane place ahead behind 0 := fun i h1 h2 h3 h4 h5 => ⟨⟨i, h1, h2, h3, n1_zero h4 h5⟩, fun j _ => n1_0 place ha.1 hbh.1 j⟩
  by_cases hm : place % 4 = 0
  · by_cases h1 : hb14 lane (place / 4)
    · by_cases h2 : hb14 lane (place / 4 - 1)
      · obtain ⟨en, st, m1, m2, m3, m4, k1, k2, k3, k4, k5⟩ := up (place / 4) (place / 4 - 1) (by omega) (by omega)
        refine ⟨_, fin en st _ _ rfl (Or.inr ⟨rfl, hm⟩) h1 h2 m1 m2 m3 m4 k1 k2 k3 k4, Cal.of (by decide +kernel) (Nat.le_of_ble_eq_true rfl) ?_⟩
        apply tX5_nearestTime_0 w _ _ _ _ hb hp
        all_goals (intros; first | with_reducible exact k5 | contradiction)
      · refine ⟨0, zero (place / 4 - 1) (by omega) (by omega) h2 (by omega) (by omega), Cal.of (by decide +kernel) (Nat.le_of_ble_eq_true rfl) ?_⟩
        apply tX5_nearestTime_0 w _ _ _ _ hb hp
        all_goals (intros; first | exact ⟨rfl, rfl⟩ | contradiction)
    · refine ⟨0, zero (place / 4) (by omega) (by omega) h1 (by omega) (by omega), Cal.of (by decide +kernel) (Nat.le_of_ble_eq_true rfl) ?_⟩
      apply tX5_nearestTime_0 w _ _ _ _ hb hp
      all_goals (intros; first | exact ⟨rfl, rfl⟩ | contradiction)
  · by_cases h1 : hb14 lane (place / 4)
    · obtain ⟨en, st, m1, m2, m3, m4, k1, k2, k3, k4, k5⟩ := up (place / 4) (place / 4) (by omega) (by omega)
      refine ⟨_, fin en st _ _ rfl (Or.inl rfl) h1 h1 m1 m2 m3 m4 k1 k2 k3 k4, Cal.of (by decide +kernel) (Nat.le_of_ble_eq_true rfl) ?_⟩
      apply tX5_nearestTime_0 w _ _ _ _ hb hp
      all_goals (intros; first | with_reducible exact k5 | contradiction)
    · refine ⟨0, zero (place / 4) (by omega) (by omega) h1 (by omega) (by omega), Cal.of (by decide +kernel) (Nat.le_of_ble_eq_true rfl) ?_⟩
      apply tX5_nearestTime_0 w _ _ _ _ hb hp
      all_goals (intros; first | exact ⟨rfl, rfl⟩ | contradiction)
