/-- the class's area at X by twice the parts -/
theorem area_at {g : Int → Int → Int} {ac dn a b X : Int} (ha : 1 ≤ ac) (hd : 1 ≤ dn) (h1 : 2 * (a * dn) ≤ X ∧ X < 2 * ((a + 1) * dn)) (h2 : 2 * (b * ac) ≤ X ∧ X < 2 * ((b + 1) * ac)) : arF (sT g (X * ac / (2 * ac * dn)) (X * dn / (2 * ac * dn))) (2 * ac * dn) (X * ac % (2 * ac * dn)) (X * dn % (2 * ac * dn)) = arX (sT g a b) a b ac dn X := by
  have key : ∀ c d e : Int, 1 ≤ c → 1 ≤ d → 2 * (e * d) ≤ X → X < 2 * ((e + 1) * d) → X / (2 * d) = e ∧ X % (2 * d) = X - 2 * (e * d) := by
    intro c d e hc hd z1 z2
    have z3 : X / (2 * d) = e := by
      apply Int.le_antisymm
      · have : X / (2 * d) < e + 1 := by
          rw [Int.ediv_lt_iff_lt_mul (by omega), Int.mul_left_comm]
          exact z2
        omega
      · rw [Int.le_ediv_iff_mul_le (by omega), Int.mul_left_comm]
        exact z1
    refine ⟨z3, ?_⟩
    have := Int.mul_ediv_add_emod X (2 * d)
    rw [z3, Int.mul_assoc, Int.mul_comm d e] at this
    omega
  obtain ⟨x1, x2⟩ := key ac dn a ha hd h1.1 h1.2
  obtain ⟨y1, y2⟩ := key dn ac b hd ha h2.1 h2.2
  have g1 : 2 * ac * dn = ac * (2 * dn) := by grind
  have g2 : 2 * ac * dn = dn * (2 * ac) := by grind
  have e1 : X * ac / (2 * ac * dn) = a := by rw [g1, Int.mul_comm X ac, Int.mul_ediv_mul_of_pos _ _ (by omega)]; exact x1
  have e2 : X * ac % (2 * ac * dn) = ac * (X - 2 * (a * dn)) := by rw [g1, Int.mul_comm X ac, Int.mul_emod_mul_of_pos _ _ (by omega), x2]
  have e3 : X * dn / (2 * ac * dn) = b := by rw [g2, Int.mul_comm X dn, Int.mul_ediv_mul_of_pos _ _ (by omega)]; exact y1
  have e4 : X * dn % (2 * ac * dn) = dn * (X - 2 * (b * ac)) := by rw [g2, Int.mul_comm X dn, Int.mul_emod_mul_of_pos _ _ (by omega), y2]
  rw [e1, e2, e3, e4]
  unfold arX
  rw [show 2 * ac * dn = 2 * (ac * dn) from Int.mul_assoc _ _ _]
theorem ev_le (ac dn : Int) : ∀ k : Nat, (evA ac dn k).1 ≤ k ∧ (evA ac dn k).2 ≤ k := by
  intro k
  induction k with
  | zero => exact ⟨Int.le_refl _, Int.le_refl _⟩
  | succ k ih =>
    rw [evA]
    dsimp only
    refine ⟨?_, ?_⟩
    · split <;> omega
    · split <;> omega
theorem y_X4_sumUp (w : eW) (hH : HH w) (hW : 1 ≤ w 2 0 ∧ 1 ≤ w 2 1) : ∃ w1, Cal mX4_sumUp [eR 24, eR 32] w none w1 ∧ Fr [25, 32] w w1 ∧ w1 32 0 = rdA (unS (gC w) (w 4 1 + w 4 3) (w 4 0 + w 4 2) 24) (6 * ((w 4 1 + w 4 3) * (w 4 0 + w 4 2)) * ((w 4 1 + w 4 3) * (w 4 0 + w 4 2)) * ((w 4 1 + w 4 3) * (w 4 0 + w 4 2))) ∧ w1 32 1 = rdB (unS (gC w) (w 4 1 + w 4 3) (w 4 0 + w 4 2) 24) (6 * ((w 4 1 + w 4 3) * (w 4 0 + w 4 2)) * ((w 4 1 + w 4 3) * (w 4 0 + w 4 2)) * ((w 4 1 + w 4 3) * (w 4 0 + w 4 2))) := by
  obtain ⟨⟨b1, b2, b3, b4, b5, b6⟩, b7, b8, b9⟩ := id hH.1
  have p0 := sp_of hH 0 (by decide) (by decide)
  have p1 := sp_of hH 1 (by decide) (by decide)
  have p2 := sp_of hH 2 (by decide) (by decide)
  have p3 := sp_of hH 3 (by decide) (by decide)
  -- names
  have hAC : 1 ≤ w 4 1 + w 4 3 ∧ w 4 1 + w 4 3 ≤ 18 := by omega
  have hDN : 1 ≤ w 4 0 + w 4 2 ∧ w 4 0 + w 4 2 ≤ 18 := by omega
  generalize eAC : w 4 1 + w 4 3 = AC at *
  generalize eDN : w 4 0 + w 4 2 = DN at *
  have hl : 1 ≤ AC * DN ∧ AC * DN ≤ 324 := by
    have := Int.mul_le_mul hAC.1 hDN.1 (by omega) (by omega)
    have := Int.mul_le_mul hAC.2 hDN.2 (by omega) (by omega)
    omega
  have hgr : 2 * AC * DN = 2 * (AC * DN) := Int.mul_assoc _ _ _
  have ev := fun j => ev_inv (ac := AC) (dn := DN) hAC.1 hDN.1 j
  have lt := fun j => ev_lt (ac := AC) (dn := DN) hAC.1 hDN.1 j
  have aL : ∀ w0 X (a b : Int), Fr [25] w w0 → 0 ≤ X → X ≤ 1000000 → 2 * (a * DN) ≤ X ∧ X < 2 * ((a + 1) * DN) → 2 * (b * AC) ≤ X ∧ X < 2 * ((b + 1) * AC) → ∃ w1, Cal mX4_areaLeft [eR 24, (1, X), (1, 2 * AC * DN)] w0 (some (1, arX (sT (gC w) a b) a b AC DN X)) w1 ∧ Fr [25] w w1 := by
    intro w0 X a b f0 x1 x2 x3 x4
    obtain ⟨w1, c1, c2⟩ := y_X4_areaLeft w0 X (2 * AC * DN) (HH_fr f0 hH (by decide)) ⟨x1, x2⟩ (by omega)
    rw [gC_fr f0 (by decide), f0 4 (by decide), eAC, eDN, area_at hAC.1 hDN.1 x3 x4] at c1
    exact ⟨w1, c1, f0.tr c2⟩
  have ub := fun (K : Int) (z : 0 ≤ K ∧ K ≤ 40) => unS_b (g := gC w) (ac := AC) (dn := DN) hAC hDN (W := w 2 0) (H := w 2 1) (by omega) (by omega) gC_in z
  have hb : 0 < 6 * (2 * AC * DN) * (2 * AC * DN) * (2 * AC * DN) ∧ 6 * (2 * AC * DN) * (2 * AC * DN) * (2 * AC * DN) < 4611686018427387904 := by
    have m1 := Int.mul_le_mul (show 2 ≤ 2 * AC * DN by omega) (show 2 ≤ 2 * AC * DN by omega) (by omega) (by omega)
    have m2 := Int.mul_le_mul (show 2 * AC * DN ≤ 648 by omega) (show 2 * AC * DN ≤ 648 by omega) (by omega) (by omega)
    have m3 := Int.mul_le_mul m1 (show 2 ≤ 2 * AC * DN by omega) (by omega) (by omega)
    have m4 := Int.mul_le_mul m2 (show 2 * AC * DN ≤ 648 by omega) (by omega) (by omega)
    rw [show 6 * (2 * AC * DN) * (2 * AC * DN) * (2 * AC * DN) = 6 * (2 * AC * DN * (2 * AC * DN) * (2 * AC * DN)) by grind]
    omega
  have tb : ∀ j : Nat, j ≤ 24 → 0 ≤ evT AC DN j ∧ evT AC DN j ≤ 450 := by
    intro j hj
    have h1 := (ev j).2.1
    have h2 := ev_le AC DN j
    have h3 := Int.mul_nonneg (ev j).1.1 (show 0 ≤ DN by omega)
    have h4 := Int.mul_le_mul (show (evA AC DN j).1 + 1 ≤ 25 by omega) hDN.2 (by omega) (by omega)
    omega
  have Fb : ∀ j : Nat, j ≤ 24 → 0 ≤ arX (stS (gC w) AC DN j) (evA AC DN j).1 (evA AC DN j).2 AC DN (2 * evT AC DN j) ∧ arX (stS (gC w) AC DN j) (evA AC DN j).1 (evA AC DN j).2 AC DN (2 * evT AC DN j) ≤ 140 * (10000 * 10000) * 4 := by
    intro j hj
    have h2 := (ev j).2.1
    have h3 := (ev j).2.2.1
    have e1 := q_s (evA AC DN j).1 DN
    have e2 := q_s (evA AC DN j).2 AC
    have cc : DN * AC = AC * DN := Int.mul_comm _ _
    unfold arX
    refine arF_b _ ⟨Int.mul_nonneg (by omega) (by omega), ?_⟩ ⟨Int.mul_nonneg (by omega) (by omega), ?_⟩ (by omega)
    · have : AC * (2 * evT AC DN j - 2 * ((evA AC DN j).1 * DN)) ≤ AC * (2 * DN) := Int.mul_le_mul_of_nonneg_left (by omega) (by omega)
      have e : AC * (2 * DN) = 2 * (AC * DN) := Int.mul_left_comm _ _ _
      omega
    · have : DN * (2 * evT AC DN j - 2 * ((evA AC DN j).2 * AC)) ≤ DN * (2 * AC) := Int.mul_le_mul_of_nonneg_left (by omega) (by omega)
      have e : DN * (2 * AC) = 2 * (DN * AC) := Int.mul_left_comm _ _ _
      omega
  have fin : ∀ (j : Int) (w0 : eW), 0 ≤ j → j ≤ 24 → Fr [25] w w0 → unS (gC w) AC DN j = unS (gC w) AC DN 24 → ¬ (j < 24 ∧ 0 < arX (stS (gC w) AC DN j.toNat) (evA AC DN j.toNat).1 (evA AC DN j.toNat).2 AC DN (2 * evT AC DN j.toNat)) → ∃ w1, Go mX4_sumUp 39 [(0, eR 24), (1, eR 32), (2, (1, 2 * AC * DN)), (4, (1, 8 * unS (gC w) AC DN j)), (6, (1, 2 * evT AC DN j.toNat)), (8, (1, arX (stS (gC w) AC DN j.toNat) (evA AC DN j.toNat).1 (evA AC DN j.toNat).2 AC DN (2 * evT AC DN j.toNat))), (10, (0, (evA AC DN j.toNat).1 + 1)), (11, (0, (evA AC DN j.toNat).2 + 1)), (12, (0, j))] [] w0 none w1 ∧ Fr [25, 32] w w1 ∧ w1 32 0 = rdA (8 * unS (gC w) AC DN 24) (6 * (2 * AC * DN) * (2 * AC * DN) * (2 * AC * DN)) ∧ w1 32 1 = rdB (8 * unS (gC w) AC DN 24) (6 * (2 * AC * DN) * (2 * AC * DN) * (2 * AC * DN)) := by
    intro j w0 j1 j2 f0 eu hx
    have u := ub 24 (by omega)
    have F := Fb j.toNat (by omega)
    have t := tb j.toNat (by omega)
    have a := ev_le AC DN j.toNat
    have a' := (ev j.toNat).1
    have rdc := y_X2_reduce32 w0 (8 * unS (gC w) AC DN j) (6 * (2 * AC * DN) * (2 * AC * DN) * (2 * AC * DN)) (by rw [eu]; omega) hb
    refine ⟨eU (eU w0 32 0 (rdA (8 * unS (gC w) AC DN j) (6 * (2 * AC * DN) * (2 * AC * DN) * (2 * AC * DN)))) 32 1 (rdB (8 * unS (gC w) AC DN j) (6 * (2 * AC * DN) * (2 * AC * DN) * (2 * AC * DN))), ?_, ((f0.mono (by decide)).put (by decide)).put (by decide), ?_, ?_⟩
    rotate_left
    · rw [eU_get, if_neg (by decide), eU_get, if_pos rfl, eu]
    · rw [eU_get, if_pos rfl, eu]
    · apply tX4_sumUp_39 w0 _ _ _ _ _ _ _ (w1 := w0) (w2 := w0) (A1 := 0) (A2 := 0) (by rw [f0 4 (by decide)]; exact sp_of hH) (by omega) (by omega) (by omega) (by omega) (by omega) (fun z1 z2 => absurd ⟨z1, z2⟩ hx) (fun z1 z2 => absurd ⟨z1, z2⟩ hx) (fun _ => rdc)
      all_goals (intros; first | exact ⟨rfl, rfl⟩ | (exfalso; apply hx; constructor <;> assumption))
  have key := loop_up (P := fun j => ∀ w0, Fr [25] w w0 → ∃ w1, Go mX4_sumUp 39 [(0, eR 24), (1, eR 32), (2, (1, 2 * AC * DN)), (4, (1, 8 * unS (gC w) AC DN j)), (6, (1, 2 * evT AC DN j.toNat)), (8, (1, arX (stS (gC w) AC DN j.toNat) (evA AC DN j.toNat).1 (evA AC DN j.toNat).2 AC DN (2 * evT AC DN j.toNat))), (10, (0, (evA AC DN j.toNat).1 + 1)), (11, (0, (evA AC DN j.toNat).2 + 1)), (12, (0, j))] [] w0 none w1 ∧ Fr [25, 32] w w1 ∧ w1 32 0 = rdA (8 * unS (gC w) AC DN 24) (6 * (2 * AC * DN) * (2 * AC * DN) * (2 * AC * DN)) ∧ w1 32 1 = rdB (8 * unS (gC w) AC DN 24) (6 * (2 * AC * DN) * (2 * AC * DN) * (2 * AC * DN))) 0 24 ?_ ?_ 0 (by omega) (by omega)
  · obtain ⟨wa, a1, a2⟩ := aL w 0 0 0 Fr.rf (by omega) (by omega) (by omega) (by omega)
    obtain ⟨w1, k1, k2, k3, k4⟩ := key wa a2
    have u0 : unS (gC w) AC DN 0 = 0 := sumI_self _ _
    rw [u0] at k1
    have e6 : 6 * (2 * AC * DN) * (2 * AC * DN) * (2 * AC * DN) = 8 * (6 * (AC * DN) * (AC * DN) * (AC * DN)) := by grind
    have u := ub 24 (by omega)
    have hp6 : 0 ≤ 6 * (AC * DN) * (AC * DN) * (AC * DN) := by
      have := Int.mul_nonneg (Int.mul_nonneg (Int.mul_nonneg (show (0 : Int) ≤ 6 by decide) (show 0 ≤ AC * DN by omega)) (show 0 ≤ AC * DN by omega)) (show 0 ≤ AC * DN by omega)
      exact this
    have rd := rd_mul (k := 8) (a := unS (gC w) AC DN 24) (b := 6 * (AC * DN) * (AC * DN) * (AC * DN)) (by decide) u.1 hp6
    rw [e6, rd.1] at k3
    rw [e6, rd.2] at k4
    refine ⟨w1, Cal.of (by decide +kernel) (Nat.le_of_ble_eq_true rfl) (tX4_sumUp_0 w (sp_of hH) (by rw [eAC, eDN]; exact a1) ?_), k2, k3, k4⟩
    rw [eAC, eDN]
    exact k1
  · intro w0 f0
    exact fin 24 w0 (by omega) (by omega) f0 rfl (fun z => absurd z.1 (by decide))
  · intro j hj1 hj2 ih w0 f0
    have ej : (j + 1).toNat = j.toNat + 1 := by omega
    by_cases hne : ∃ x y, stS (gC w) AC DN j.toNat x y
    · have hs : sup 14 10 (stS (gC w) AC DN j.toNat) := sT_sup gC_in (by omega) (by omega) (ev j.toNat).1.1 (ev j.toNat).1.2
      obtain ⟨h1, h2, h3, h4⟩ := ev j.toNat
      obtain ⟨g1, g2, g3, g4⟩ := ev (j.toNat + 1)
      have e1 := q_s (evA AC DN j.toNat).1 DN
      have e2 := q_s (evA AC DN j.toNat).2 AC
      have e1' := q_s (evA AC DN (j.toNat + 1)).1 DN
      have e2' := q_s (evA AC DN (j.toNat + 1)).2 AC
      have cc : DN * AC = AC * DN := Int.mul_comm _ _
      have F := Fb j.toNat (by omega)
      have t := tb j.toNat (by omega)
      have t' := tb (j.toNat + 1) (by omega)
      have ltj := lt j.toNat
      have a := ev_le AC DN j.toNat
      have pos : 0 < arX (stS (gC w) AC DN j.toNat) (evA AC DN j.toNat).1 (evA AC DN j.toNat).2 AC DN (2 * evT AC DN j.toNat) := by
        unfold arX
        refine arF_pos hs ⟨Int.mul_nonneg (by omega) (by omega), ?_⟩ ⟨Int.mul_nonneg (by omega) (by omega), ?_⟩ hne
        · have : AC * (2 * evT AC DN j.toNat - 2 * ((evA AC DN j.toNat).1 * DN)) < AC * (2 * DN) := Int.mul_lt_mul_of_pos_left (by omega) (by omega)
          have e : AC * (2 * DN) = 2 * (AC * DN) := Int.mul_left_comm _ _ _
          omega
        · have : DN * (2 * evT AC DN j.toNat - 2 * ((evA AC DN j.toNat).2 * AC)) < DN * (2 * AC) := Int.mul_lt_mul_of_pos_left (by omega) (by omega)
          have e : DN * (2 * AC) = 2 * (DN * AC) := Int.mul_left_comm _ _ _
          omega
      have eT : evT AC DN (j.toNat + 1) = min (((evA AC DN j.toNat).1 + 1) * DN) (((evA AC DN j.toNat).2 + 1) * AC) := rfl
      have m1 : 2 * ((evA AC DN j.toNat).1 + 1) * DN = 2 * (((evA AC DN j.toNat).1 + 1) * DN) := Int.mul_assoc _ _ _
      have m2 : 2 * ((evA AC DN j.toNat).2 + 1) * AC = 2 * (((evA AC DN j.toNat).2 + 1) * AC) := Int.mul_assoc _ _ _
      have hmin : min (2 * ((evA AC DN j.toNat).1 + 1) * DN) (2 * ((evA AC DN j.toNat).2 + 1) * AC) = 2 * evT AC DN (j.toNat + 1) := by rw [m1, m2, eT]; omega
      obtain ⟨wa, a1, a2⟩ := aL w0 (2 * evT AC DN (j.toNat + 1)) (evA AC DN (j.toNat + 1)).1 (evA AC DN (j.toNat + 1)).2 f0 (by omega) (by omega) (by omega) (by omega)
      obtain ⟨wb, c1, c2⟩ := aL wa (evT AC DN j.toNat + evT AC DN (j.toNat + 1)) (evA AC DN j.toNat).1 (evA AC DN j.toNat).2 a2 (by omega) (by omega) (by omega) (by omega)
      obtain ⟨w1, k1, k2⟩ := ih wb c2
      rw [ej] at k1
      have sp := simpson (stS (gC w) AC DN j.toNat) (evA AC DN j.toNat).1 (evA AC DN j.toNat).2 AC DN (evT AC DN j.toNat) (evT AC DN (j.toNat + 1))
      have ct := ar_cont (g := gC w) (ac := AC) (dn := DN) hAC.1 hDN.1 j.toNat
      have es : unS (gC w) AC DN (j + 1) = unS (gC w) AC DN j + unK (gC w) AC DN j.toNat := sumI_succ _ hj1
      have eK : unK (gC w) AC DN j.toNat = tmU (stS (gC w) AC DN j.toNat) (evA AC DN j.toNat).1 (evA AC DN j.toNat).2 AC DN (evT AC DN j.toNat) (evT AC DN (j.toNat + 1)) := rfl
      have hsum : 8 * unS (gC w) AC DN (j + 1) = 8 * unS (gC w) AC DN j + (2 * evT AC DN (j.toNat + 1) - 2 * evT AC DN j.toNat) * (arX (stS (gC w) AC DN j.toNat) (evA AC DN j.toNat).1 (evA AC DN j.toNat).2 AC DN (2 * evT AC DN j.toNat) + 4 * arX (stS (gC w) AC DN j.toNat) (evA AC DN j.toNat).1 (evA AC DN j.toNat).2 AC DN (evT AC DN j.toNat + evT AC DN (j.toNat + 1)) + arX (stS (gC w) AC DN (j.toNat + 1)) (evA AC DN (j.toNat + 1)).1 (evA AC DN (j.toNat + 1)).2 AC DN (2 * evT AC DN (j.toNat + 1))) := by
        rw [es, eK, ct, sp]
        omega
      rw [hsum] at k1
      have eA1 : (evA AC DN (j.toNat + 1)).1 = if ((evA AC DN j.toNat).1 + 1) * DN ≤ ((evA AC DN j.toNat).2 + 1) * AC then (evA AC DN j.toNat).1 + 1 else (evA AC DN j.toNat).1 := rfl
      have eA2 : (evA AC DN (j.toNat + 1)).2 = if ((evA AC DN j.toNat).2 + 1) * AC ≤ ((evA AC DN j.toNat).1 + 1) * DN then (evA AC DN j.toNat).2 + 1 else (evA AC DN j.toNat).2 := rfl
      have hmid : (2 * evT AC DN j.toNat + 2 * evT AC DN (j.toNat + 1)) / 2 = evT AC DN j.toNat + evT AC DN (j.toNat + 1) := by omega
      refine ⟨w1, ?_, k2⟩
      have row := fun (r : Option eV) (w9 : eW) => tX4_sumUp_39 (r := r) (w9 := w9) w0 (2 * AC * DN) (8 * unS (gC w) AC DN j) (2 * evT AC DN j.toNat) (arX (stS (gC w) AC DN j.toNat) (evA AC DN j.toNat).1 (evA AC DN j.toNat).2 AC DN (2 * evT AC DN j.toNat)) ((evA AC DN j.toNat).1 + 1) ((evA AC DN j.toNat).2 + 1) j (w1 := wa) (w2 := wb) (w3 := w0) (A1 := arX (stS (gC w) AC DN (j.toNat + 1)) (evA AC DN (j.toNat + 1)).1 (evA AC DN (j.toNat + 1)).2 AC DN (2 * evT AC DN (j.toNat + 1))) (A2 := arX (stS (gC w) AC DN j.toNat) (evA AC DN j.toNat).1 (evA AC DN j.toNat).2 AC DN (evT AC DN j.toNat + evT AC DN (j.toNat + 1))) (by rw [f0 4 (by decide)]; exact sp_of hH) (by omega) (by omega) (by omega) (by omega) (by omega)
      rw [f0 4 (by decide), eAC, eDN, hmin, hmid] at row
      refine row _ _ (fun _ _ => a1) (fun _ _ => c1) (fun z => absurd ⟨hj2, pos⟩ z) ?_ ?_ ?_ ?_ ?_ ?_
      · intro _ _ z1 z2
        rw [m1] at z1; rw [m2] at z2
        rw [eA1, eA2, if_pos (by omega), if_pos (by omega)] at k1
        rw [eA1, eA2, if_pos (by omega), if_pos (by omega)]
        exact k1
      · intro _ _ z1 z2
        rw [m1] at z1; rw [m2] at z2
        rw [eA1, eA2, if_pos (by omega), if_neg (by omega)] at k1
        rw [eA1, eA2, if_pos (by omega), if_neg (by omega), Int.add_zero]
        exact k1
      · intro _ _ z1 z2
        rw [m1] at z1; rw [m2] at z2
        rw [eA1, eA2, if_neg (by omega), if_pos (by omega)] at k1
        rw [eA1, eA2, if_neg (by omega), if_pos (by omega), Int.add_zero]
        exact k1
      · intro _ _ z1 z2
        rw [m1] at z1; rw [m2] at z2
        omega
      · intro _ z; exact absurd pos z
      · intro z; omega
    · have hz : ∀ x y, ¬ stS (gC w) AC DN j.toNat x y := fun x y z => hne ⟨x, y, z⟩
      refine fin j w0 hj1 (by omega) f0 ?_ (fun z => ?_)
      · have := unS_gone hz (K := 24) (by omega)
        rw [show ((j.toNat : Nat) : Int) = j by omega] at this
        exact this.symm
      · have := arF_none hz (2 * (AC * DN)) (AC * (2 * evT AC DN j.toNat - 2 * ((evA AC DN j.toNat).1 * DN))) (DN * (2 * evT AC DN j.toNat - 2 * ((evA AC DN j.toNat).2 * AC)))
        have e : arX (stS (gC w) AC DN j.toNat) (evA AC DN j.toNat).1 (evA AC DN j.toNat).2 AC DN (2 * evT AC DN j.toNat) = 0 := this
        omega
