/-- something ends or falls apart behind the k-th span -/
def EVk (g : Int → Int → Int) (ac dn : Int) (k : Nat) : Prop := 0 < evE (stS g ac dn k) (stS g ac dn (k + 1)) (npF (stS g ac dn k)) + evP (stS g ac dn k) (stS g ac dn (k + 1)) (npF (stS g ac dn k))
noncomputable def evN (g : Int → Int → Int) (ac dn K : Int) : Int := sumI (fun k => bI (EVk g ac dn k.toNat)) 0 K
theorem evN_succ (g : Int → Int → Int) (ac dn : Int) {K : Int} (h : 0 ≤ K) : evN g ac dn (K + 1) = evN g ac dn K + bI (EVk g ac dn K.toNat) := sumI_succ _ h
theorem evN_b (g : Int → Int → Int) (ac dn : Int) {K : Int} (h : 0 ≤ K) : 0 ≤ evN g ac dn K ∧ evN g ac dn K ≤ K := by
  have := sumI_bound (f := fun k => bI (EVk g ac dn k.toNat)) (a := 0) (b := K) (lo := 0) (hi := 1) h (fun c _ _ => bI_01 _)
  unfold evN
  omega
theorem evN_mono (g : Int → Int → Int) (ac dn : Int) {K L : Int} (h : 0 ≤ K) (h2 : K ≤ L) : evN g ac dn K ≤ evN g ac dn L := by
  unfold evN
  rw [sumI_split _ h h2]
  have := sumI_nn (f := fun k => bI (EVk g ac dn k.toNat)) (a := K) (b := L) (fun c _ _ => (bI_01 _).1)
  omega
theorem evN_lt (g : Int → Int → Int) (ac dn : Int) {k K : Nat} (h : k < K) (he : EVk g ac dn k) : evN g ac dn k < evN g ac dn K := by
  have e := evN_succ g ac dn (K := (k : Int)) (by omega)
  rw [Int.toNat_natCast, bI_1 he] at e
  have := evN_mono g ac dn (K := (k : Int) + 1) (L := K) (by omega) (by omega)
  omega
theorem ev_none {S S' : eP} (h : ∀ x y, ¬ S x y) : npF S = 0 := npF_is ⟨fun i hi => absurd hi (by omega), h⟩
theorem EVk_gone {g : Int → Int → Int} {ac dn : Int} {k : Nat} (h : ∀ x y, ¬ stS g ac dn k x y) : ¬ EVk g ac dn k := by
  unfold EVk evE evP
  rw [ev_none (S' := stS g ac dn k) h, show ((0 : Nat) : Int) = 0 from rfl, sumI_self, sumI_self]
  omega
theorem evN_gone {g : Int → Int → Int} {ac dn : Int} {k : Nat} (h : ∀ x y, ¬ stS g ac dn k x y) {K : Int} (hK : (k : Int) ≤ K) : evN g ac dn K = evN g ac dn k := by
  unfold evN
  rw [sumI_split _ (show (0 : Int) ≤ k by omega) hK, sumI_z (a := (k : Int)) (fun i i1 i2 => ?_), Int.add_zero]
  exact bI_0 (EVk_gone (st_gone h i.toNat (by omega)))
theorem ev_find (g : Int → Int → Int) (ac dn : Int) : ∀ (K : Nat) (e : Int), 0 ≤ e → e < evN g ac dn K → ∃ k : Nat, k < K ∧ EVk g ac dn k ∧ evN g ac dn k = e := by
  intro K
  induction K with
  | zero => intro e h1 h2; have : evN g ac dn ((0 : Nat) : Int) = 0 := sumI_self _ _; omega
  | succ K ih =>
    intro e h1 h2
    have es := evN_succ g ac dn (K := (K : Int)) (by omega)
    rw [show ((K + 1 : Nat) : Int) = (K : Int) + 1 by omega, es, Int.toNat_natCast] at h2
    by_cases hl : e < evN g ac dn K
    · obtain ⟨k, k1, k2, k3⟩ := ih e h1 hl
      exact ⟨k, by omega, k2, k3⟩
    · by_cases hE : EVk g ac dn K
      · rw [bI_1 hE] at h2
        exact ⟨K, by omega, hE, by omega⟩
      · rw [bI_0 hE] at h2
        omega
/-- the entries of the events ahead of the span K -/
def evR (g : Int → Int → Int) (ac dn : Int) (f : Int → Int) (K : Int) : Prop := ∀ k : Nat, (k : Int) < K → EVk g ac dn k → f (evN g ac dn k * 5) = rdA (evT ac dn (k + 1)) (ac * dn) ∧ f (evN g ac dn k * 5 + 1) = rdB (evT ac dn (k + 1)) (ac * dn) ∧ f (evN g ac dn k * 5 + 2) = evE (stS g ac dn k) (stS g ac dn (k + 1)) (npF (stS g ac dn k)) ∧ f (evN g ac dn k * 5 + 3) = evP (stS g ac dn k) (stS g ac dn (k + 1)) (npF (stS g ac dn k)) ∧ f (evN g ac dn k * 5 + 4) = npF (stS g ac dn (k + 1))
/-- the class's events are those of the house -/
def RE (w : eW) : Prop := w 24 9 = 1 ∧ w 24 8 = evN (gC w) (w 4 1 + w 4 3) (w 4 0 + w 4 2) 24 ∧ evR (gC w) (w 4 1 + w 4 3) (w 4 0 + w 4 2) (w 30) 24
theorem RE_fr {S : List Nat} {w w1 : eW} (h : Fr S w w1) (hS : 2 ∉ S ∧ 3 ∉ S ∧ 4 ∉ S ∧ 24 ∉ S ∧ 30 ∉ S) (hR : RE w) : RE w1 := by
  unfold RE at *
  rw [h 24 hS.2.2.2.1, h 30 hS.2.2.2.2, h 4 hS.2.2.1, gC_fr h ⟨hS.1, hS.2.1⟩]
  exact hR
theorem y_X4_findEvents (w : eW) (hH : HH w) (hW : 1 ≤ w 2 0 ∧ 1 ≤ w 2 1) (hz : w 24 9 = 0 ∨ RE w) : ∃ w1, Cal mX4_findEvents [eR 24] w none w1 ∧ Fr [24, 25, 26, 27, 28, 29, 30, 31] w w1 ∧ RE w1 := by
  obtain ⟨⟨b1, b2, b3, b4, b5, b6⟩, b7, b8, b9⟩ := id hH.1
  by_cases h0 : w 24 9 = 0
  · have p0 := sp_of hH 0 (by decide) (by decide)
    have p1 := sp_of hH 1 (by decide) (by decide)
    have p2 := sp_of hH 2 (by decide) (by decide)
    have p3 := sp_of hH 3 (by decide) (by decide)
    have hAC : 1 ≤ w 4 1 + w 4 3 ∧ w 4 1 + w 4 3 ≤ 18 := by omega
    have hDN : 1 ≤ w 4 0 + w 4 2 ∧ w 4 0 + w 4 2 ≤ 18 := by omega
    unfold RE
    suffices H : ∃ w1, Cal mX4_findEvents [eR 24] w none w1 ∧ Fr [24, 25, 26, 27, 28, 29, 30, 31] w w1 ∧ w1 24 9 = 1 ∧ w1 24 8 = evN (gC w) (w 4 1 + w 4 3) (w 4 0 + w 4 2) 24 ∧ evR (gC w) (w 4 1 + w 4 3) (w 4 0 + w 4 2) (w1 30) 24 by
      obtain ⟨w1, k1, k2, k3⟩ := H
      refine ⟨w1, k1, k2, ?_⟩
      rw [gC_fr k2 (by decide), k2 4 (by decide)]
      exact k3
    generalize eAC : w 4 1 + w 4 3 = AC at *
    generalize eDN : w 4 0 + w 4 2 = DN at *
    have ev := fun j => ev_inv (ac := AC) (dn := DN) hAC.1 hDN.1 j
    have hl : 1 ≤ AC * DN ∧ AC * DN ≤ 324 := by
      have := Int.mul_le_mul hAC.1 hDN.1 (by omega) (by omega)
      have := Int.mul_le_mul hAC.2 hDN.2 (by omega) (by omega)
      omega
    have key := loop_up (P := fun j => ∀ w0, Fr [24, 25, 26, 27, 28, 29, 30, 31] w w0 → w0 24 9 = 1 → w0 24 8 = evN (gC w) AC DN j → evR (gC w) AC DN (w0 30) j → ∃ w1, Go mX4_findEvents 24 [(0, eR 24), (1, (0, (evA AC DN j.toNat).1)), (2, (0, (evA AC DN j.toNat).2)), (3, (0, j))] [] w0 none w1 ∧ Fr [24, 25, 26, 27, 28, 29, 30, 31] w w1 ∧ w1 24 9 = 1 ∧ w1 24 8 = evN (gC w) AC DN 24 ∧ evR (gC w) AC DN (w1 30) 24) 0 24 ?_ ?_ 0 (by omega) (by omega) (eU (eU w 24 9 1) 24 8 0) ((Fr.rf.put (by decide)).put (by decide)) (by rw [eU_get, if_neg (by decide), eU_get, if_pos rfl]) (by rw [eU_get, if_pos rfl]; exact (sumI_self _ _).symm) (fun k hk => absurd hk (by omega))
    · obtain ⟨w1, k1, k2⟩ := key
      exact ⟨w1, Cal.of (by decide +kernel) (Nat.le_of_ble_eq_true rfl) (tX4_findEvents_0 w (by omega) (fun _ => k1) (fun z => absurd h0 z)), k2⟩
    · intro w0 f0 e9 e8 hR
      have a := ev_le AC DN (24 : Int).toNat
      have a' := (ev (24 : Int).toNat).1
      have e24 : ((24 : Int).toNat : Int) = 24 := rfl
      refine ⟨w0, ?_, f0, e9, e8, hR⟩
      apply tX4_findEvents_24 w0 _ _ _ (w1 := w0) (by rw [f0 4 (by decide)]; exact sp_of hH) (HB_fr f0 hH.1 (by decide)) (by omega) (by omega) (by omega) rfl (fun z => absurd z (by decide))
      all_goals (intro z; first | exact absurd z (by decide) | exact ⟨rfl, rfl⟩)
    · intro j hj1 hj2 ih w0 f0 e9 e8 hR
      have e4 : w0 4 = w 4 := f0 4 (by decide)
      have e2 : w0 2 = w 2 := f0 2 (by decide)
      have eg : gC w0 = gC w := gC_fr f0 (by decide)
      have hH0 : HH w0 := HH_fr f0 hH (by decide)
      have a := ev_le AC DN j.toNat
      obtain ⟨h1, h2, h3, h4⟩ := ev j.toNat
      have ej : (j + 1).toNat = j.toNat + 1 := by omega
      by_cases hL : evL AC DN (w 2 0) (w 2 1) j.toNat
      · obtain ⟨L1, L2⟩ := id hL
        obtain ⟨wa, c1, c2, c3⟩ := y_X4_findStands25 w0 (evA AC DN j.toNat).1 (evA AC DN j.toNat).2 hH0 (by omega) (by omega)
        rw [eg] at c3
        have fa : Fr [24, 25, 26, 27, 28, 29, 30, 31] w wa := f0.tr (c2.mono (by decide))
        -- behind the times' reduction
        have fin : ∀ wb, Fr [31] wa wb → wb 31 0 = rdA (evT AC DN (j.toNat + 1)) (AC * DN) → wb 31 1 = rdB (evT AC DN (j.toNat + 1)) (AC * DN) → ∃ w1, Go mX4_findEvents 125 [(0, eR 24), (1, (0, (evA AC DN (j.toNat + 1)).1)), (2, (0, (evA AC DN (j.toNat + 1)).2)), (3, (0, j))] [] wb none w1 ∧ Fr [24, 25, 26, 27, 28, 29, 30, 31] w w1 ∧ w1 24 9 = 1 ∧ w1 24 8 = evN (gC w) AC DN 24 ∧ evR (gC w) AC DN (w1 30) 24 := by
          intro wb fb t0 t1
          have fwb : Fr [24, 25, 26, 27, 28, 29, 30, 31] w wb := fa.tr (fb.mono (by decide))
          have mo := ev_mono AC DN j.toNat
          have st1 : (evA AC DN (j.toNat + 1)).1 ≤ (evA AC DN j.toNat).1 + 1 ∧ (evA AC DN (j.toNat + 1)).2 ≤ (evA AC DN j.toNat).2 + 1 := by
            rw [evA]
            dsimp only
            refine ⟨?_, ?_⟩
            · split <;> omega
            · split <;> omega
          obtain ⟨wc, d1, d2, d3⟩ := y_X4_findStands26 wb (evA AC DN (j.toNat + 1)).1 (evA AC DN (j.toNat + 1)).2 (HH_fr fwb hH (by decide)) (by omega) (by omega)
          rw [gC_fr fwb (by decide)] at d3
          have c8 : wc 24 8 = evN (gC w) AC DN j := by rw [d2.at 24 (by decide), fb.at 24 (by decide), c2.at 24 (by decide)]; exact e8
          have nb := evN_b (gC w) AC DN hj1
          obtain ⟨wd, n1, n2, n3, n4, n5⟩ := y_X4_noteChanges wc (S := stS (gC w) AC DN j.toNat) (S' := stS (gC w) AC DN (j.toNat + 1)) (SB_fr d2 (by decide) (SB_fr fb (by decide) c3)) d3 (fun x y z => st_sub _ x y z) (by omega)
          have e30 : wc 30 = w0 30 := by rw [d2 30 (by decide), fb 30 (by decide), c2 30 (by decide)]
          have e31 : wc 31 = wb 31 := d2 31 (by decide)
          have fwd : Fr [24, 25, 26, 27, 28, 29, 30, 31] w wd := (fwb.tr (d2.mono (by decide))).tr (n2.mono (by decide))
          have d9 : wd 24 9 = 1 := by rw [n3 9 (by decide), d2.at 24 (by decide), fb.at 24 (by decide), c2.at 24 (by decide)]; exact e9
          have es := evN_succ (gC w) AC DN hj1
          have nx : wd 24 8 = evN (gC w) AC DN (j + 1) ∧ evR (gC w) AC DN (wd 30) (j + 1) := by
            by_cases hE : EVk (gC w) AC DN j.toNat
            · obtain ⟨m1, m2, m3, m4, m5, m6, m7⟩ := n4 hE
              rw [c8, e30, e31, t0, t1] at *
              refine ⟨by rw [m1, es, bI_1 hE], fun k hk hEk => ?_⟩
              by_cases hkj : k = j.toNat
              · subst hkj
                rw [show ((j.toNat : Nat) : Int) = j by omega]
                exact ⟨m3, m4, m5, m6, m7⟩
              · have := evN_lt (gC w) AC DN (show k < j.toNat by omega) hEk
                rw [show ((j.toNat : Nat) : Int) = j by omega] at this
                rw [m2 _ (by omega), m2 _ (by omega), m2 _ (by omega), m2 _ (by omega), m2 _ (by omega)]
                exact hR k (by omega) hEk
            · obtain ⟨m1, m2⟩ := n5 hE
              refine ⟨by rw [m1, c8, es, bI_0 hE]; omega, fun k hk hEk => ?_⟩
              by_cases hkj : k = j.toNat
              · rw [hkj] at hEk; exact absurd hEk hE
              · rw [m2, e30]
                exact hR k (by omega) hEk
          obtain ⟨w1, k1, k2⟩ := ih wd fwd d9 nx.1 nx.2
          rw [ej] at k1
          exact ⟨w1, tX4_findEvents_125 wb _ _ _ d1 n1 k1, k2⟩
        have eT : evT AC DN (j.toNat + 1) = min (((evA AC DN j.toNat).1 + 1) * DN) (((evA AC DN j.toNat).2 + 1) * AC) := rfl
        have eA1 : (evA AC DN (j.toNat + 1)).1 = if ((evA AC DN j.toNat).1 + 1) * DN ≤ ((evA AC DN j.toNat).2 + 1) * AC then (evA AC DN j.toNat).1 + 1 else (evA AC DN j.toNat).1 := rfl
        have eA2 : (evA AC DN (j.toNat + 1)).2 = if ((evA AC DN j.toNat).2 + 1) * AC ≤ ((evA AC DN j.toNat).1 + 1) * DN then (evA AC DN j.toNat).2 + 1 else (evA AC DN j.toNat).2 := rfl
        have tp : 0 ≤ evT AC DN (j.toNat + 1) := by
          have q1 := Int.mul_nonneg (show 0 ≤ (evA AC DN j.toNat).1 + 1 by omega) (show 0 ≤ DN by omega)
          have q2 := Int.mul_nonneg (show 0 ≤ (evA AC DN j.toNat).2 + 1 by omega) (show 0 ≤ AC by omega)
          omega
        have rA : evT AC DN (j.toNat + 1) = ((evA AC DN j.toNat).1 + 1) * DN → rdA ((evA AC DN j.toNat).1 + 1) AC = rdA (evT AC DN (j.toNat + 1)) (AC * DN) ∧ rdB ((evA AC DN j.toNat).1 + 1) AC = rdB (evT AC DN (j.toNat + 1)) (AC * DN) := fun z => rd_same (by omega) (by omega) tp (by omega) (by rw [z]; grind)
        have rB : evT AC DN (j.toNat + 1) = ((evA AC DN j.toNat).2 + 1) * AC → rdA ((evA AC DN j.toNat).2 + 1) DN = rdA (evT AC DN (j.toNat + 1)) (AC * DN) ∧ rdB ((evA AC DN j.toNat).2 + 1) DN = rdB (evT AC DN (j.toNat + 1)) (AC * DN) := fun z => rd_same (by omega) (by omega) tp (by omega) (by rw [z]; grind)
        have row := fun (r : Option eV) (w9 : eW) => tX4_findEvents_24 (r := r) (w9 := w9) w0 (evA AC DN j.toNat).1 (evA AC DN j.toNat).2 j (w1 := wa) (by rw [e4]; exact sp_of hH) hH0.1 (by omega) (by omega) (by omega) (c2 4 (by decide)) (fun _ _ _ => c1)
        rw [e4, e2, eAC, eDN] at row
        rcases Int.lt_trichotomy (((evA AC DN j.toNat).1 + 1) * DN) (((evA AC DN j.toNat).2 + 1) * AC) with hc | hc | hc
        · have r1 := rA (by omega)
          obtain ⟨w1, k1, k2⟩ := fin (eU (eU wa 31 0 (rdA ((evA AC DN j.toNat).1 + 1) AC)) 31 1 (rdB ((evA AC DN j.toNat).1 + 1) AC)) ((Fr.rf.put (by decide)).put (by decide)) (by rw [eU_get, if_neg (by decide), eU_get, if_pos rfl]; exact r1.1) (by rw [eU_get, if_pos rfl]; exact r1.2)
          rw [eA1, eA2, if_pos (by omega), if_neg (by omega)] at k1
          refine ⟨w1, row _ _ ?_ ?_ ?_ ?_ ?_ ?_ ?_, k2⟩
          · intro _ _ _ z1 z2; omega
          · intro _ _ _ z1 z2; omega
          · intro _ _ _ _ _; exact k1
          · intro _ _ _ z1 z2; omega
          · intro _ _ z; exact absurd L2 z
          · intro _ z; exact absurd L1 z
          · intro z; omega
        · have r1 := rB (by omega)
          obtain ⟨w1, k1, k2⟩ := fin (eU (eU (eU (eU wa 31 0 (rdA ((evA AC DN j.toNat).1 + 1) AC)) 31 1 (rdB ((evA AC DN j.toNat).1 + 1) AC)) 31 0 (rdA ((evA AC DN j.toNat).2 + 1) DN)) 31 1 (rdB ((evA AC DN j.toNat).2 + 1) DN)) ((((Fr.rf.put (by decide)).put (by decide)).put (by decide)).put (by decide)) (by rw [eU_get, if_neg (by decide), eU_get, if_pos rfl]; exact r1.1) (by rw [eU_get, if_pos rfl]; exact r1.2)
          rw [eA1, eA2, if_pos (by omega), if_pos (by omega)] at k1
          refine ⟨w1, row _ _ ?_ ?_ ?_ ?_ ?_ ?_ ?_, k2⟩
          · intro _ _ _ z1 z2; omega
          · intro _ _ _ z1 z2; omega
          · intro _ _ _ z1 z2; omega
          · intro _ _ _ _ _; exact k1
          · intro _ _ z; exact absurd L2 z
          · intro _ z; exact absurd L1 z
          · intro z; omega
        · have r1 := rB (by omega)
          obtain ⟨w1, k1, k2⟩ := fin (eU (eU wa 31 0 (rdA ((evA AC DN j.toNat).2 + 1) DN)) 31 1 (rdB ((evA AC DN j.toNat).2 + 1) DN)) ((Fr.rf.put (by decide)).put (by decide)) (by rw [eU_get, if_neg (by decide), eU_get, if_pos rfl]; exact r1.1) (by rw [eU_get, if_pos rfl]; exact r1.2)
          rw [eA1, eA2, if_neg (by omega), if_pos (by omega)] at k1
          refine ⟨w1, row _ _ ?_ ?_ ?_ ?_ ?_ ?_ ?_, k2⟩
          · intro _ _ _ z1 z2; omega
          · intro _ _ _ _ _; exact k1
          · intro _ _ _ z1 z2; omega
          · intro _ _ _ z1 z2; omega
          · intro _ _ z; exact absurd L2 z
          · intro _ z; exact absurd L1 z
          · intro z; omega
      · have hz := st_dead (g := gC w) gC_in hAC.1 hDN.1 hL
        have en := evN_gone hz (K := 24) (by omega)
        rw [show ((j.toNat : Nat) : Int) = j by omega] at en
        refine ⟨w0, ?_, f0, e9, by rw [en]; exact e8, fun k hk hEk => ?_⟩
        · unfold evL at hL
          apply tX4_findEvents_24 w0 _ _ _ (w1 := w0) (by rw [e4]; exact sp_of hH) hH0.1 (by omega) (by omega) (by omega) rfl (fun _ z1 z2 => absurd ⟨by rw [e2] at z1; exact z1, by rw [e2] at z2; exact z2⟩ hL)
          all_goals (intros; first | exact ⟨rfl, rfl⟩ | (exfalso; rw [e2] at *; omega))
        · by_cases hkj : (k : Int) < j
          · exact hR k hkj hEk
          · exact absurd hEk (EVk_gone (st_gone hz k (by omega)))
  · have hR : RE w := hz.elim (fun z => absurd z h0) id
    exact ⟨w, Cal.of (by decide +kernel) (Nat.le_of_ble_eq_true rfl) (tX4_findEvents_0 w (by have := hR.1; omega) (fun z => absurd z h0) (fun _ => ⟨rfl, rfl⟩)), Fr.rf, hR⟩
