/-! common factors -/
def gI (a b : Int) : Int := ((Nat.gcd a.toNat b.toNat : Nat) : Int)
theorem gI_0 {a : Int} (h : 0 ≤ a) : gI a 0 = a := by
  unfold gI
  rw [show (0 : Int).toNat = 0 from rfl, Nat.gcd_zero_right]
  omega
theorem gI_step {a b : Int} (ha : 0 ≤ a) (hb : 0 < b) : gI b (a % b) = gI a b := by
  unfold gI
  congr 1
  have e : (a % b).toNat = a.toNat % b.toNat := by
    obtain ⟨n, rfl⟩ := Int.eq_ofNat_of_zero_le ha
    obtain ⟨m, rfl⟩ := Int.eq_ofNat_of_zero_le (Int.le_of_lt hb)
    rfl
  rw [e, Nat.gcd_comm a.toNat b.toNat, Nat.gcd_comm b.toNat, ← Nat.gcd_rec]
theorem gI_pos {a b : Int} (hb : 0 < b) : 0 < gI a b := by
  unfold gI
  have := Nat.gcd_pos_of_pos_right a.toNat (show 0 < b.toNat by omega)
  omega
theorem gI_le {a b : Int} (hb : 0 < b) : gI a b ≤ b := by
  unfold gI
  have := Nat.le_of_dvd (show 0 < b.toNat by omega) (Nat.gcd_dvd_right a.toNat b.toNat)
  omega
theorem gI_mul {k a b : Int} (hk : 0 ≤ k) (ha : 0 ≤ a) (hb : 0 ≤ b) : gI (k * a) (k * b) = k * gI a b := by
  obtain ⟨k, rfl⟩ := Int.eq_ofNat_of_zero_le hk
  obtain ⟨a, rfl⟩ := Int.eq_ofNat_of_zero_le ha
  obtain ⟨b, rfl⟩ := Int.eq_ofNat_of_zero_le hb
  unfold gI
  rw [← Int.natCast_mul, ← Int.natCast_mul]
  simp only [Int.toNat_natCast]
  rw [Nat.gcd_mul_left, Int.natCast_mul]
/-- lowest terms -/
def rdA (a b : Int) : Int := a / gI a b
def rdB (a b : Int) : Int := b / gI a b
theorem rd_mul {k a b : Int} (hk : 0 < k) (ha : 0 ≤ a) (hb : 0 ≤ b) : rdA (k * a) (k * b) = rdA a b ∧ rdB (k * a) (k * b) = rdB a b := by
  unfold rdA rdB
  rw [gI_mul (by omega) ha hb, Int.mul_ediv_mul_of_pos _ _ hk, Int.mul_ediv_mul_of_pos _ _ hk]
  exact ⟨rfl, rfl⟩
/-- the same fraction -/
theorem rd_same {a b c d : Int} (ha : 0 ≤ a) (hb : 0 < b) (hc : 0 ≤ c) (hd : 0 < d) (h : a * d = c * b) : rdA a b = rdA c d ∧ rdB a b = rdB c d := by
  have e1 := rd_mul (k := d) (a := a) (b := b) hd ha (by omega)
  have e2 := rd_mul (k := b) (a := c) (b := d) hb hc (by omega)
  rw [Int.mul_comm d a, h, Int.mul_comm c b, Int.mul_comm d b] at e1
  exact ⟨e1.1.symm.trans e2.1, e1.2.symm.trans e2.2⟩
theorem e_half {a b : Int} (hb : 0 < b) (hab : b < a) : 0 ≤ a % b ∧ a % b < b ∧ 2 * (a % b) ≤ a := by
  have h1 := Int.emod_nonneg a (show b ≠ 0 by omega)
  have h2 := Int.emod_lt_of_pos a hb
  have h3 := Int.mul_ediv_add_emod a b
  have h4 : 1 ≤ a / b := by
    rw [Int.le_ediv_iff_mul_le hb]
    omega
  have h5 : b * 1 ≤ b * (a / b) := Int.mul_le_mul_of_nonneg_left h4 (by omega)
  refine ⟨h1, h2, by omega⟩
set_option maxHeartbeats 4000000 in
set_option maxRecDepth 20000 in
theorem tX2_commonFactor_0 {r : Option eV} {w9 : eW} (w : eW) (a b : Int) (k1 : Go mX2_commonFactor 9 [(4, (1, a)), (6, (1, b)), (8, (0, 0))] [] w r w9) : Go mX2_commonFactor 0 [(0, (1, a)), (2, (1, b))] [] w r w9 := by
  exact go_lload_n (eD DX2_commonFactor 0 rfl) rfl rfl (go_lstore (eD DX2_commonFactor 1 rfl) (by decide) (go_lload_n (eD DX2_commonFactor 2 rfl) rfl rfl (go_lstore (eD DX2_commonFactor 3 rfl) (by decide) (go_iconst (eD DX2_commonFactor 4 rfl) (go_istore (eD DX2_commonFactor 5 rfl) (by decide) (Go.pick [2, 1, 0] rfl (k1)))))))
set_option maxHeartbeats 4000000 in
set_option maxRecDepth 20000 in
theorem tX2_commonFactor_9 {r : Option eV} {w9 : eW} (w : eW) (a b s : Int) (ha : 0 ≤ a ∧ a < 4611686018427387904) (hb : 0 ≤ b ∧ b < 4611686018427387904) (hs : 0 ≤ s ∧ s ≤ 200) (k1 : s < 200 → b = 0 → r = some (1, a) ∧ w9 = w) (k2 : s < 200 → ¬ (b = 0) → Go mX2_commonFactor 9 [(4, (1, b)), (6, (1, a % b)), (8, (0, s + 1))] [] w r w9) (k3 : ¬ (s < 200) → r = some (1, a) ∧ w9 = w) : Go mX2_commonFactor 9 [(4, (1, a)), (6, (1, b)), (8, (0, s))] [] w r w9 := by
  refine go_iload (eD DX2_commonFactor 6 rfl) rfl (go_sipush (eD DX2_commonFactor 7 rfl) (by decide) (?_))
  by_cases h1 : s < 200
  · refine go_icmp_geF (tgt := 45) (eD DX2_commonFactor 8 rfl) rfl (by omega) (by decide) (Int.not_le.mpr h1) ?_
    refine go_lload (eD DX2_commonFactor 9 rfl) rfl (go_lconst (n := 0) (eD DX2_commonFactor 10 rfl) rfl (?_))
    by_cases h2 : b = 0
    · refine go_leqT (tgt := 45) (eD DX2_commonFactor 11 rfl) (eD DX2_commonFactor 12 rfl) rfl (by omega) (by decide) h2 ?_
      rw [(k1 h1 h2).1, (k1 h1 h2).2]
      exact go_lload (eD DX2_commonFactor 23 rfl) rfl (go_lret (eD DX2_commonFactor 24 rfl) rfl)
    · refine go_leqF (tgt := 45) (eD DX2_commonFactor 11 rfl) (eD DX2_commonFactor 12 rfl) rfl (by omega) (by decide) h2 ?_
      exact go_lload (eD DX2_commonFactor 13 rfl) rfl (go_lload (eD DX2_commonFactor 14 rfl) rfl (go_lrem (eD DX2_commonFactor 15 rfl) (by omega) (by omega) (by omega) (by omega) (go_lstore (eD DX2_commonFactor 16 rfl) (by decide) (go_lload (eD DX2_commonFactor 17 rfl) rfl (go_lstore (eD DX2_commonFactor 18 rfl) (by decide) (go_lload (eD DX2_commonFactor 19 rfl) rfl (go_lstore (eD DX2_commonFactor 20 rfl) (by decide) (go_iinc (eD DX2_commonFactor 21 rfl) rfl (by decide) (go_goto (tgt := 9) (eD DX2_commonFactor 22 rfl) rfl (Go.pick [2, 1, 0] rfl (k2 h1 h2)))))))))))
  · refine go_icmp_geT (tgt := 45) (eD DX2_commonFactor 8 rfl) rfl (by omega) (by decide) (Int.not_lt.mp h1) ?_
    rw [(k3 h1).1, (k3 h1).2]
    exact go_lload (eD DX2_commonFactor 23 rfl) rfl (go_lret (eD DX2_commonFactor 24 rfl) rfl)
set_option maxHeartbeats 4000000 in
set_option maxRecDepth 20000 in
theorem tX8_common_0 {r : Option eV} {w9 : eW} (w : eW) (a b : Int) (k1 : Go mX8_common 6 [(4, (1, a)), (6, (1, b))] [] w r w9) : Go mX8_common 0 [(0, (1, a)), (2, (1, b))] [] w r w9 := by
  exact go_lload_n (eD DX8_common 0 rfl) rfl rfl (go_lstore (eD DX8_common 1 rfl) (by decide) (go_lload_n (eD DX8_common 2 rfl) rfl rfl (go_lstore (eD DX8_common 3 rfl) (by decide) (Go.pick [1, 0] rfl (k1)))))
set_option maxHeartbeats 4000000 in
set_option maxRecDepth 20000 in
theorem tX8_common_6 {r : Option eV} {w9 : eW} (w : eW) (a b : Int) (ha : 0 ≤ a ∧ a < 4611686018427387904) (hb : 0 ≤ b ∧ b < 4611686018427387904) (k1 : b = 0 → r = some (1, a) ∧ w9 = w) (k2 : ¬ (b = 0) → Go mX8_common 6 [(4, (1, b)), (6, (1, a % b))] [] w r w9) : Go mX8_common 6 [(4, (1, a)), (6, (1, b))] [] w r w9 := by
  refine go_lload (eD DX8_common 4 rfl) rfl (go_lconst (n := 0) (eD DX8_common 5 rfl) rfl (?_))
  by_cases h1 : b = 0
  · refine go_leqT (tgt := 31) (eD DX8_common 6 rfl) (eD DX8_common 7 rfl) rfl (by omega) (by decide) h1 ?_
    rw [(k1 h1).1, (k1 h1).2]
    exact go_lload (eD DX8_common 17 rfl) rfl (go_lret (eD DX8_common 18 rfl) rfl)
  · refine go_leqF (tgt := 31) (eD DX8_common 6 rfl) (eD DX8_common 7 rfl) rfl (by omega) (by decide) h1 ?_
    exact go_lload (eD DX8_common 8 rfl) rfl (go_lload (eD DX8_common 9 rfl) rfl (go_lrem (eD DX8_common 10 rfl) (by omega) (by omega) (by omega) (by omega) (go_lstore (eD DX8_common 11 rfl) (by decide) (go_lload (eD DX8_common 12 rfl) rfl (go_lstore (eD DX8_common 13 rfl) (by decide) (go_lload (eD DX8_common 14 rfl) rfl (go_lstore (eD DX8_common 15 rfl) (by decide) (go_goto (tgt := 6) (eD DX8_common 16 rfl) rfl (Go.pick [1, 0] rfl (k2 h1))))))))))
theorem y_cfL (w : eW) : ∀ (n : Nat) (a b s : Int), 0 ≤ b → b < a → a < 4611686018427387904 → a * b < 2 ^ n → 0 ≤ s → s + n ≤ 199 → Go mX2_commonFactor 9 [(4, (1, a)), (6, (1, b)), (8, (0, s))] [] w (some (1, gI a b)) w := by
  intro n
  induction n with
  | zero =>
    intro a b s h1 h2 h3 h4 h5 h6
    have hb : b = 0 := by
      refine Classical.byContradiction fun hn => ?_
      have := Int.mul_le_mul (show (1 : Int) ≤ a by omega) (show (1 : Int) ≤ b by omega) (by omega) (by omega)
      rw [Int.pow_zero] at h4
      omega
    subst hb
    apply tX2_commonFactor_9 w a 0 s (by omega) (by omega) (by omega)
    all_goals (intros; first | (rw [gI_0 (by omega)]; exact ⟨rfl, rfl⟩) | contradiction | omega)
  | succ n ih =>
    intro a b s h1 h2 h3 h4 h5 h6
    by_cases hb : b = 0
    · subst hb
      apply tX2_commonFactor_9 w a 0 s (by omega) (by omega) (by omega)
      all_goals (intros; first | (rw [gI_0 (by omega)]; exact ⟨rfl, rfl⟩) | contradiction | omega)
    · obtain ⟨e1, e2, e3⟩ := e_half (show 0 < b by omega) h2
      have e4 : b * (2 * (a % b)) ≤ b * a := Int.mul_le_mul_of_nonneg_left e3 (by omega)
      have e5 : b * (a % b) < 2 ^ n := by
        rw [Int.pow_succ, Int.mul_comm a b] at h4
        rw [Int.mul_left_comm] at e4
        omega
      have := ih b (a % b) (s + 1) e1 e2 (by omega) e5 (by omega) (by omega)
      rw [gI_step (by omega) (by omega)] at this
      apply tX2_commonFactor_9 w a b s (by omega) (by omega) (by omega)
      all_goals (intros; first | exact this | contradiction | (exfalso; omega))
theorem y_X2_commonFactor (w : eW) (a b : Int) (ha : 0 ≤ a ∧ a < 4611686018427387904) (hb : 0 < b ∧ b < 4611686018427387904) : Cal mX2_commonFactor [(1, a), (1, b)] w (some (1, gI a b)) w := by
  refine Cal.of (by decide +kernel) (Nat.le_of_ble_eq_true rfl) (tX2_commonFactor_0 w a b ?_)
  have h1 := Int.emod_nonneg a (show b ≠ 0 by omega)
  have h2 := Int.emod_lt_of_pos a hb.1
  have h3 : b * (a % b) ≤ 4611686018427387904 * 4611686018427387904 := Int.mul_le_mul (by omega) (by omega) h1 (by omega)
  have := y_cfL w 125 b (a % b) 1 h1 h2 hb.2 (by
    have e : (4611686018427387904 : Int) * 4611686018427387904 < 2 ^ 125 := by decide
    omega) (by omega) (by omega)
  rw [gI_step ha.1 hb.1] at this
  apply tX2_commonFactor_9 w a b 0 (by omega) (by omega) (by omega)
  all_goals (intros; first | exact this | contradiction | (exfalso; omega))
theorem y_coL (w : eW) : ∀ (n : Nat) (a b : Int), 0 ≤ b → 0 ≤ a → a < 4611686018427387904 → b < 4611686018427387904 → b ≤ n → Go mX8_common 6 [(4, (1, a)), (6, (1, b))] [] w (some (1, gI a b)) w := by
  intro n
  induction n with
  | zero =>
    intro a b h1 h2 h3 h4 h5
    have hb : b = 0 := by omega
    subst hb
    apply tX8_common_6 w a 0 (by omega) (by omega)
    all_goals (intros; first | (rw [gI_0 (by omega)]; exact ⟨rfl, rfl⟩) | contradiction | omega)
  | succ n ih =>
    intro a b h1 h2 h3 h4 h5
    by_cases hb : b = 0
    · subst hb
      apply tX8_common_6 w a 0 (by omega) (by omega)
      all_goals (intros; first | (rw [gI_0 (by omega)]; exact ⟨rfl, rfl⟩) | contradiction | omega)
    · have e1 := Int.emod_nonneg a hb
      have e2 := Int.emod_lt_of_pos a (show 0 < b by omega)
      have := ih b (a % b) e1 (by omega) h4 (by omega) (by omega)
      rw [gI_step (by omega) (by omega)] at this
      apply tX8_common_6 w a b (by omega) (by omega)
      all_goals (intros; first | exact this | contradiction | (exfalso; omega))
theorem y_X8_common (w : eW) (a b : Int) (ha : 0 ≤ a ∧ a < 4611686018427387904) (hb : 0 < b ∧ b < 4611686018427387904) : Cal mX8_common [(1, a), (1, b)] w (some (1, gI a b)) w :=
  Cal.of (by decide +kernel) (Nat.le_of_ble_eq_true rfl) (tX8_common_0 w a b (y_coL w b.toNat a b (by omega) (by omega) (by omega) (by omega) (by omega)))
set_option maxHeartbeats 4000000 in
set_option maxRecDepth 20000 in
theorem tX2_reduce31_0 {r : Option eV} {w9 : eW} (w : eW) (a b : Int) (ha : 0 ≤ a ∧ a < 4611686018427387904) (hb : 0 < b ∧ b < 4611686018427387904) (k1 : r = none ∧ w9 = (eU (eU w 31 0 (a / (gI a b))) 31 1 (b / (gI a b)))) : Go mX2_reduce 0 [(0, eR 31), (1, (1, a)), (3, (1, b))] [] w r w9 := by
  have hg := gI_pos (a := a) hb.1
  have hl := gI_le (a := a) hb.1
  have a1 : 0 < (gI a b) := by omega
  refine go_lload_n (eD DX2_reduce 0 rfl) rfl rfl (go_lload_n (eD DX2_reduce 1 rfl) rfl rfl (go_callS [(1, a), (1, b)] (eD DX2_reduce 2 rfl) ⟨eMem 3 53 rfl rfl, sX2_commonFactor⟩ ⟨Nat.le_of_ble_eq_true rfl, Nat.le_of_ble_eq_true rfl⟩ rfl rfl (Nat.le_of_ble_eq_true rfl) (y_X2_commonFactor w a b ha hb) (go_lstore (eD DX2_reduce 3 rfl) (by decide) (go_lload (eD DX2_reduce 4 rfl) rfl (go_lconst (n := 0) (eD DX2_reduce 5 rfl) rfl (go_lgtT (tgt := 25) (eD DX2_reduce 6 rfl) (eD DX2_reduce 7 rfl) rfl (by omega) (by decide) a1 (?_)))))))
  rw [(k1).1, (k1).2]
  exact go_aload_n (eD DX2_reduce 15 rfl) rfl rfl (go_lload_n (eD DX2_reduce 16 rfl) rfl rfl (go_lload (eD DX2_reduce 17 rfl) rfl (go_ldiv (eD DX2_reduce 18 rfl) (by omega) (by omega) (by omega) (by omega) (go_putJ (kz := 0) (eD DX2_reduce 19 rfl) fX2_7 (by decide) rfl rfl (fun q h => by cases h; exact ⟨rfl, rfl⟩) rfl (go_aload_n (eD DX2_reduce 20 rfl) rfl rfl (go_lload_n (eD DX2_reduce 21 rfl) rfl rfl (go_lload (eD DX2_reduce 22 rfl) rfl (go_ldiv (eD DX2_reduce 23 rfl) (by omega) (by omega) (by omega) (by omega) (go_putJ (kz := 1) (eD DX2_reduce 24 rfl) fX2_13 (by decide) rfl rfl (fun q h => by cases h; exact ⟨rfl, rfl⟩) rfl (go_vret (eD DX2_reduce 25 rfl) rfl))))))))))
theorem y_X2_reduce31 (w : eW) (a b : Int) (ha : 0 ≤ a ∧ a < 4611686018427387904) (hb : 0 < b ∧ b < 4611686018427387904) : Cal mX2_reduce [eR 31, (1, a), (1, b)] w none (eU (eU w 31 0 (rdA a b)) 31 1 (rdB a b)) :=
  Cal.of (by decide +kernel) (Nat.le_of_ble_eq_true rfl) (tX2_reduce31_0 w a b ha hb ⟨rfl, rfl⟩)
def rX2_part31 (w : eW) (what : Int) : Int := if what = 0 then (w 31 0) else (w 31 1)
set_option maxRecDepth 20000 in
theorem zX2_part31 (w : eW) (what : Int) (hwhat : eI what) : Cal mX2_part [eR 31, (0, what)] w (some (1, rX2_part31 w what)) w := by
  unfold rX2_part31
  refine Cal.of (by decide +kernel) (Nat.le_of_ble_eq_true rfl) ?_
  show Go _ 0 [(0, eR 31), (1, (0, what))] [] _ _ _
  refine go_iload_n (eD DX2_part 0 rfl) rfl rfl (?_)
  by_cases h1 : what = 0
  · refine go_if_neF (tgt := 11) (eD DX2_part 1 rfl) rfl (by omega) (not_not_intro h1) ?_
    simp only [if_pos h1]
    exact go_aload_n (eD DX2_part 2 rfl) rfl rfl (go_getJ (kz := 0) (eD DX2_part 3 rfl) fX2_7 (by decide) rfl rfl rfl (go_goto (tgt := 15) (eD DX2_part 4 rfl) rfl (go_lret (eD DX2_part 7 rfl) rfl)))
  · refine go_if_neT (tgt := 11) (eD DX2_part 1 rfl) rfl (by omega) h1 ?_
    simp only [if_neg h1]
    exact go_aload_n (eD DX2_part 5 rfl) rfl rfl (go_getJ (kz := 1) (eD DX2_part 6 rfl) fX2_13 (by decide) rfl rfl rfl (go_lret (eD DX2_part 7 rfl) rfl))
set_option maxHeartbeats 4000000 in
set_option maxRecDepth 20000 in
theorem tX2_reduce32_0 {r : Option eV} {w9 : eW} (w : eW) (a b : Int) (ha : 0 ≤ a ∧ a < 4611686018427387904) (hb : 0 < b ∧ b < 4611686018427387904) (k1 : r = none ∧ w9 = (eU (eU w 32 0 (a / (gI a b))) 32 1 (b / (gI a b)))) : Go mX2_reduce 0 [(0, eR 32), (1, (1, a)), (3, (1, b))] [] w r w9 := by
  have hg := gI_pos (a := a) hb.1
  have hl := gI_le (a := a) hb.1
  have a1 : 0 < (gI a b) := by omega
  refine go_lload_n (eD DX2_reduce 0 rfl) rfl rfl (go_lload_n (eD DX2_reduce 1 rfl) rfl rfl (go_callS [(1, a), (1, b)] (eD DX2_reduce 2 rfl) ⟨eMem 3 53 rfl rfl, sX2_commonFactor⟩ ⟨Nat.le_of_ble_eq_true rfl, Nat.le_of_ble_eq_true rfl⟩ rfl rfl (Nat.le_of_ble_eq_true rfl) (y_X2_commonFactor w a b ha hb) (go_lstore (eD DX2_reduce 3 rfl) (by decide) (go_lload (eD DX2_reduce 4 rfl) rfl (go_lconst (n := 0) (eD DX2_reduce 5 rfl) rfl (go_lgtT (tgt := 25) (eD DX2_reduce 6 rfl) (eD DX2_reduce 7 rfl) rfl (by omega) (by decide) a1 (?_)))))))
  rw [(k1).1, (k1).2]
  exact go_aload_n (eD DX2_reduce 15 rfl) rfl rfl (go_lload_n (eD DX2_reduce 16 rfl) rfl rfl (go_lload (eD DX2_reduce 17 rfl) rfl (go_ldiv (eD DX2_reduce 18 rfl) (by omega) (by omega) (by omega) (by omega) (go_putJ (kz := 0) (eD DX2_reduce 19 rfl) fX2_7 (by decide) rfl rfl (fun q h => by cases h; exact ⟨rfl, rfl⟩) rfl (go_aload_n (eD DX2_reduce 20 rfl) rfl rfl (go_lload_n (eD DX2_reduce 21 rfl) rfl rfl (go_lload (eD DX2_reduce 22 rfl) rfl (go_ldiv (eD DX2_reduce 23 rfl) (by omega) (by omega) (by omega) (by omega) (go_putJ (kz := 1) (eD DX2_reduce 24 rfl) fX2_13 (by decide) rfl rfl (fun q h => by cases h; exact ⟨rfl, rfl⟩) rfl (go_vret (eD DX2_reduce 25 rfl) rfl))))))))))
theorem y_X2_reduce32 (w : eW) (a b : Int) (ha : 0 ≤ a ∧ a < 4611686018427387904) (hb : 0 < b ∧ b < 4611686018427387904) : Cal mX2_reduce [eR 32, (1, a), (1, b)] w none (eU (eU w 32 0 (rdA a b)) 32 1 (rdB a b)) :=
  Cal.of (by decide +kernel) (Nat.le_of_ble_eq_true rfl) (tX2_reduce32_0 w a b ha hb ⟨rfl, rfl⟩)
def rX2_part32 (w : eW) (what : Int) : Int := if what = 0 then (w 32 0) else (w 32 1)
set_option maxRecDepth 20000 in
theorem zX2_part32 (w : eW) (what : Int) (hwhat : eI what) : Cal mX2_part [eR 32, (0, what)] w (some (1, rX2_part32 w what)) w := by
  unfold rX2_part32
  refine Cal.of (by decide +kernel) (Nat.le_of_ble_eq_true rfl) ?_
  show Go _ 0 [(0, eR 32), (1, (0, what))] [] _ _ _
  refine go_iload_n (eD DX2_part 0 rfl) rfl rfl (?_)
  by_cases h1 : what = 0
  · refine go_if_neF (tgt := 11) (eD DX2_part 1 rfl) rfl (by omega) (not_not_intro h1) ?_
    simp only [if_pos h1]
    exact go_aload_n (eD DX2_part 2 rfl) rfl rfl (go_getJ (kz := 0) (eD DX2_part 3 rfl) fX2_7 (by decide) rfl rfl rfl (go_goto (tgt := 15) (eD DX2_part 4 rfl) rfl (go_lret (eD DX2_part 7 rfl) rfl)))
  · refine go_if_neT (tgt := 11) (eD DX2_part 1 rfl) rfl (by omega) h1 ?_
    simp only [if_neg h1]
    exact go_aload_n (eD DX2_part 5 rfl) rfl rfl (go_getJ (kz := 1) (eD DX2_part 6 rfl) fX2_13 (by decide) rfl rfl rfl (go_lret (eD DX2_part 7 rfl) rfl))
theorem rd_b {a b : Int} (ha : 0 ≤ a) (hb : 0 < b) : (0 ≤ rdA a b ∧ rdA a b ≤ a) ∧ 0 < rdB a b ∧ rdB a b ≤ b := by
  have hg := gI_pos (a := a) hb
  have hl := gI_le (a := a) hb
  unfold rdA rdB
  refine ⟨⟨Int.ediv_nonneg ha (by omega), Int.ediv_le_self _ ha⟩, ?_, Int.ediv_le_self _ (by omega)⟩
  have : 1 ≤ b / gI a b := by
    rw [Int.le_ediv_iff_mul_le hg]
    omega
  omega
