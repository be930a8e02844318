set_option maxHeartbeats 4000000 in
set_option maxRecDepth 20000 in
theorem tX8_wallWith_0 {r : Option eV} {w9 : eW} (w : eW) (x y side : Int) (k1 : Go mX8_wallWith 3 [(0, eR 33), (1, (0, x)), (2, (0, y)), (3, (0, side)), (4, (0, 0))] [] w r w9) : Go mX8_wallWith 0 [(0, eR 33), (1, (0, x)), (2, (0, y)), (3, (0, side))] [] w r w9 := by
  exact go_iconst (eD DX8_wallWith 0 rfl) (go_istore (eD DX8_wallWith 1 rfl) (by decide) (Go.pick [1, 2, 3, 4, 0] rfl (k1)))
set_option maxHeartbeats 4000000 in
set_option maxRecDepth 20000 in
theorem tX8_wallWithA_3 {r : Option eV} {w9 : eW} (w : eW) (x y side k : Int) (hx : eI x) (hy : eI y) (hs : 0 ≤ side ∧ side < 4) (hc : w 33 33 ≤ 280) (hk : 0 ≤ k ∧ k < w 33 33) (hv1 : 0 ≤ w 41 k ∧ w 41 k < 4) (hv2 : 0 ≤ w 42 k ∧ w 42 k < 100) (hv3 : 0 ≤ w 43 k ∧ w 43 k < 100) (hv4 : 0 ≤ w 44 k ∧ w 44 k < 1000) (k1 : (w 41 k) = side → (side % 2) = 0 → y = (w 43 k) → (w 42 k) ≤ x ∧ x ≤ (((w 42 k) + (w 44 k)) - 1) → r = some (0, k) ∧ w9 = w) (k2 : (w 41 k) = side → (side % 2) = 0 → y = (w 43 k) → ¬ ((w 42 k) ≤ x ∧ x ≤ (((w 42 k) + (w 44 k)) - 1)) → Go mX8_wallWith 3 [(0, eR 33), (1, (0, x)), (2, (0, y)), (3, (0, side)), (4, (0, k + 1))] [] w r w9) (k3 : (w 41 k) = side → (side % 2) = 0 → ¬ (y = (w 43 k)) → Go mX8_wallWith 3 [(0, eR 33), (1, (0, x)), (2, (0, y)), (3, (0, side)), (4, (0, k + 1))] [] w r w9) (k4 : (w 41 k) = side → ¬ ((side % 2) = 0) → x = (w 42 k) → (w 43 k) ≤ y ∧ y ≤ (((w 43 k) + (w 44 k)) - 1) → r = some (0, k) ∧ w9 = w) (k5 : (w 41 k) = side → ¬ ((side % 2) = 0) → x = (w 42 k) → ¬ ((w 43 k) ≤ y ∧ y ≤ (((w 43 k) + (w 44 k)) - 1)) → Go mX8_wallWith 3 [(0, eR 33), (1, (0, x)), (2, (0, y)), (3, (0, side)), (4, (0, k + 1))] [] w r w9) (k6 : (w 41 k) = side → ¬ ((side % 2) = 0) → ¬ (x = (w 42 k)) → Go mX8_wallWith 3 [(0, eR 33), (1, (0, x)), (2, (0, y)), (3, (0, side)), (4, (0, k + 1))] [] w r w9) (k7 : ¬ ((w 41 k) = side) → Go mX8_wallWith 3 [(0, eR 33), (1, (0, x)), (2, (0, y)), (3, (0, side)), (4, (0, k + 1))] [] w r w9) : Go mX8_wallWith 3 [(0, eR 33), (1, (0, x)), (2, (0, y)), (3, (0, side)), (4, (0, k))] [] w r w9 := by
  have a1 : k < (w 33 33) := by omega
  refine go_iload (eD DX8_wallWith 2 rfl) rfl (go_aload_n (eD DX8_wallWith 3 rfl) rfl rfl (go_getI (kz := 33) (eD DX8_wallWith 4 rfl) fX8_247 (by decide) rfl rfl rfl (go_icmp_geF (tgt := 145) (eD DX8_wallWith 5 rfl) rfl (by omega) (show eI (w 33 33) from by omega) (Int.not_le.mpr a1) (?_))))
  refine go_aload_n (eD DX8_wallWith 6 rfl) rfl rfl (go_getR (t := 41) (eD DX8_wallWith 7 rfl) fX8_35 (by decide) rfl ⟨rfl, rfl⟩ (go_iload (eD DX8_wallWith 8 rfl) rfl (go_iald (n := 560) (eD DX8_wallWith 9 rfl) (by decide) rfl (by omega) (go_iload_n (eD DX8_wallWith 10 rfl) rfl rfl (?_)))))
  by_cases h1 : (w 41 k) = side
  · refine go_icmp_eqT (tgt := 26) (eD DX8_wallWith 11 rfl) rfl (show eI (w 41 k) from by omega) (by omega) h1 ?_
    refine go_iload_n (eD DX8_wallWith 13 rfl) rfl rfl (go_iconst (eD DX8_wallWith 14 rfl) (go_irem (eD DX8_wallWith 15 rfl) (by omega) (by decide) (by omega) (show (0 : Int) < 2 from by decide) (?_)))
    by_cases h2 : (side % 2) = 0
    · refine go_if_neF (tgt := 82) (eD DX8_wallWith 16 rfl) rfl (by omega) (not_not_intro h2) ?_
      refine go_iload_n (eD DX8_wallWith 17 rfl) rfl rfl (go_aload_n (eD DX8_wallWith 18 rfl) rfl rfl (go_getR (t := 43) (eD DX8_wallWith 19 rfl) fX8_41 (by decide) rfl ⟨rfl, rfl⟩ (go_iload (eD DX8_wallWith 20 rfl) rfl (go_iald (n := 560) (eD DX8_wallWith 21 rfl) (by decide) rfl (by omega) (?_)))))
      by_cases h3 : y = (w 43 k)
      · refine go_icmp_neF (tgt := 78) (eD DX8_wallWith 22 rfl) rfl (by omega) (show eI (w 43 k) from by omega) (not_not_intro h3) ?_
        refine go_iload_n (eD DX8_wallWith 23 rfl) rfl rfl (go_aload_n (eD DX8_wallWith 24 rfl) rfl rfl (go_getR (t := 42) (eD DX8_wallWith 25 rfl) fX8_38 (by decide) rfl ⟨rfl, rfl⟩ (go_iload (eD DX8_wallWith 26 rfl) rfl (go_iald (n := 560) (eD DX8_wallWith 27 rfl) (by decide) rfl (by omega) (go_aload_n (eD DX8_wallWith 28 rfl) rfl rfl (go_getR (t := 42) (eD DX8_wallWith 29 rfl) fX8_38 (by decide) rfl ⟨rfl, rfl⟩ (go_iload (eD DX8_wallWith 30 rfl) rfl (go_iald (n := 560) (eD DX8_wallWith 31 rfl) (by decide) rfl (by omega) (go_aload_n (eD DX8_wallWith 32 rfl) rfl rfl (go_getR (t := 44) (eD DX8_wallWith 33 rfl) fX8_44 (by decide) rfl ⟨rfl, rfl⟩ (go_iload (eD DX8_wallWith 34 rfl) rfl (go_iald (n := 560) (eD DX8_wallWith 35 rfl) (by decide) rfl (by omega) (go_iadd (eD DX8_wallWith 36 rfl) (go_iconst (eD DX8_wallWith 37 rfl) (go_isub (eD DX8_wallWith 38 rfl) (go_callS [(0, x), (0, w 42 k), (0, ((w 42 k) + (w 44 k)) - 1)] (eD DX8_wallWith 39 rfl) ⟨eMem 5 230 rfl rfl, sX8_in⟩ ⟨Nat.le_of_ble_eq_true rfl, Nat.le_of_ble_eq_true rfl⟩ rfl rfl (Nat.le_of_ble_eq_true rfl) (y_b_X8_in w x (w 42 k) (((w 42 k) + (w 44 k)) - 1) (by omega) (show eI (w 42 k) from by omega) (show eI (((w 42 k) + (w 44 k)) - 1) from by omega) ) (?_)))))))))))))))))
        by_cases h4 : (w 42 k) ≤ x ∧ x ≤ (((w 42 k) + (w 44 k)) - 1)
        · refine go_if_eqF (tgt := 78) (eD DX8_wallWith 40 rfl) rfl (eI_pI _) (pI1 h4) ?_
          refine go_iconst (eD DX8_wallWith 41 rfl) (go_goto (tgt := 129) (eD DX8_wallWith 42 rfl) rfl (go_istore (eD DX8_wallWith 72 rfl) (by decide) (go_iload (eD DX8_wallWith 73 rfl) rfl (go_if_eqF (tgt := 139) (eD DX8_wallWith 74 rfl) rfl (by decide) (show ¬ ((1 : Int) = 0) from by decide) (?_)))))
          rw [(k1 h1 h2 h3 h4).1, (k1 h1 h2 h3 h4).2]
          exact go_iload (eD DX8_wallWith 75 rfl) rfl (go_iret (eD DX8_wallWith 76 rfl) rfl)
        · refine go_if_eqT (tgt := 78) (eD DX8_wallWith 40 rfl) rfl (eI_pI _) (pI0 h4) ?_
          refine go_iconst (eD DX8_wallWith 43 rfl) (go_goto (tgt := 129) (eD DX8_wallWith 44 rfl) rfl (go_istore (eD DX8_wallWith 72 rfl) (by decide) (go_iload (eD DX8_wallWith 73 rfl) rfl (go_if_eqT (tgt := 139) (eD DX8_wallWith 74 rfl) rfl (by decide) (show (0 : Int) = 0 from by decide) (?_)))))
          exact go_iinc (eD DX8_wallWith 77 rfl) rfl (by decide) (go_goto (tgt := 3) (eD DX8_wallWith 78 rfl) rfl (Go.pick [2, 3, 4, 5, 0] rfl (k2 h1 h2 h3 h4)))
      · refine go_icmp_neT (tgt := 78) (eD DX8_wallWith 22 rfl) rfl (by omega) (show eI (w 43 k) from by omega) h3 ?_
        refine go_iconst (eD DX8_wallWith 43 rfl) (go_goto (tgt := 129) (eD DX8_wallWith 44 rfl) rfl (go_istore (eD DX8_wallWith 72 rfl) (by decide) (go_iload (eD DX8_wallWith 73 rfl) rfl (go_if_eqT (tgt := 139) (eD DX8_wallWith 74 rfl) rfl (by decide) (show (0 : Int) = 0 from by decide) (?_)))))
        exact go_iinc (eD DX8_wallWith 77 rfl) rfl (by decide) (go_goto (tgt := 3) (eD DX8_wallWith 78 rfl) rfl (Go.pick [2, 3, 4, 5, 0] rfl (k3 h1 h2 h3)))
    · refine go_if_neT (tgt := 82) (eD DX8_wallWith 16 rfl) rfl (by omega) h2 ?_
      refine go_iload_n (eD DX8_wallWith 45 rfl) rfl rfl (go_aload_n (eD DX8_wallWith 46 rfl) rfl rfl (go_getR (t := 42) (eD DX8_wallWith 47 rfl) fX8_38 (by decide) rfl ⟨rfl, rfl⟩ (go_iload (eD DX8_wallWith 48 rfl) rfl (go_iald (n := 560) (eD DX8_wallWith 49 rfl) (by decide) rfl (by omega) (?_)))))
      by_cases h3 : x = (w 42 k)
      · refine go_icmp_neF (tgt := 128) (eD DX8_wallWith 50 rfl) rfl (by omega) (show eI (w 42 k) from by omega) (not_not_intro h3) ?_
        refine go_iload_n (eD DX8_wallWith 51 rfl) rfl rfl (go_aload_n (eD DX8_wallWith 52 rfl) rfl rfl (go_getR (t := 43) (eD DX8_wallWith 53 rfl) fX8_41 (by decide) rfl ⟨rfl, rfl⟩ (go_iload (eD DX8_wallWith 54 rfl) rfl (go_iald (n := 560) (eD DX8_wallWith 55 rfl) (by decide) rfl (by omega) (go_aload_n (eD DX8_wallWith 56 rfl) rfl rfl (go_getR (t := 43) (eD DX8_wallWith 57 rfl) fX8_41 (by decide) rfl ⟨rfl, rfl⟩ (go_iload (eD DX8_wallWith 58 rfl) rfl (go_iald (n := 560) (eD DX8_wallWith 59 rfl) (by decide) rfl (by omega) (go_aload_n (eD DX8_wallWith 60 rfl) rfl rfl (go_getR (t := 44) (eD DX8_wallWith 61 rfl) fX8_44 (by decide) rfl ⟨rfl, rfl⟩ (go_iload (eD DX8_wallWith 62 rfl) rfl (go_iald (n := 560) (eD DX8_wallWith 63 rfl) (by decide) rfl (by omega) (go_iadd (eD DX8_wallWith 64 rfl) (go_iconst (eD DX8_wallWith 65 rfl) (go_isub (eD DX8_wallWith 66 rfl) (go_callS [(0, y), (0, w 43 k), (0, ((w 43 k) + (w 44 k)) - 1)] (eD DX8_wallWith 67 rfl) ⟨eMem 5 230 rfl rfl, sX8_in⟩ ⟨Nat.le_of_ble_eq_true rfl, Nat.le_of_ble_eq_true rfl⟩ rfl rfl (Nat.le_of_ble_eq_true rfl) (y_b_X8_in w y (w 43 k) (((w 43 k) + (w 44 k)) - 1) (by omega) (show eI (w 43 k) from by omega) (show eI (((w 43 k) + (w 44 k)) - 1) from by omega) ) (?_)))))))))))))))))
        by_cases h4 : (w 43 k) ≤ y ∧ y ≤ (((w 43 k) + (w 44 k)) - 1)
        · refine go_if_eqF (tgt := 128) (eD DX8_wallWith 68 rfl) rfl (eI_pI _) (pI1 h4) ?_
          refine go_iconst (eD DX8_wallWith 69 rfl) (go_goto (tgt := 129) (eD DX8_wallWith 70 rfl) rfl (go_istore (eD DX8_wallWith 72 rfl) (by decide) (go_iload (eD DX8_wallWith 73 rfl) rfl (go_if_eqF (tgt := 139) (eD DX8_wallWith 74 rfl) rfl (by decide) (show ¬ ((1 : Int) = 0) from by decide) (?_)))))
          rw [(k4 h1 h2 h3 h4).1, (k4 h1 h2 h3 h4).2]
          exact go_iload (eD DX8_wallWith 75 rfl) rfl (go_iret (eD DX8_wallWith 76 rfl) rfl)
        · refine go_if_eqT (tgt := 128) (eD DX8_wallWith 68 rfl) rfl (eI_pI _) (pI0 h4) ?_
          refine go_iconst (eD DX8_wallWith 71 rfl) (go_istore (eD DX8_wallWith 72 rfl) (by decide) (go_iload (eD DX8_wallWith 73 rfl) rfl (go_if_eqT (tgt := 139) (eD DX8_wallWith 74 rfl) rfl (by decide) (show (0 : Int) = 0 from by decide) (?_))))
          exact go_iinc (eD DX8_wallWith 77 rfl) rfl (by decide) (go_goto (tgt := 3) (eD DX8_wallWith 78 rfl) rfl (Go.pick [2, 3, 4, 5, 0] rfl (k5 h1 h2 h3 h4)))
      · refine go_icmp_neT (tgt := 128) (eD DX8_wallWith 50 rfl) rfl (by omega) (show eI (w 42 k) from by omega) h3 ?_
        refine go_iconst (eD DX8_wallWith 71 rfl) (go_istore (eD DX8_wallWith 72 rfl) (by decide) (go_iload (eD DX8_wallWith 73 rfl) rfl (go_if_eqT (tgt := 139) (eD DX8_wallWith 74 rfl) rfl (by decide) (show (0 : Int) = 0 from by decide) (?_))))
        exact go_iinc (eD DX8_wallWith 77 rfl) rfl (by decide) (go_goto (tgt := 3) (eD DX8_wallWith 78 rfl) rfl (Go.pick [2, 3, 4, 5, 0] rfl (k6 h1 h2 h3)))
  · refine go_icmp_eqF (tgt := 26) (eD DX8_wallWith 11 rfl) rfl (show eI (w 41 k) from by omega) (by omega) h1 ?_
    exact go_goto (tgt := 139) (eD DX8_wallWith 12 rfl) rfl (go_iinc (eD DX8_wallWith 77 rfl) rfl (by decide) (go_goto (tgt := 3) (eD DX8_wallWith 78 rfl) rfl (Go.pick [1, 2, 3, 4, 0] rfl (k7 h1))))
set_option maxHeartbeats 4000000 in
set_option maxRecDepth 20000 in
theorem tX8_wallWithB_3 {r : Option eV} {w9 : eW} (w : eW) (x y side k : Int) (hc : w 33 33 ≤ 280) (hk : 0 ≤ k ∧ k = w 33 33) (k1 : r = some (0, (-1)) ∧ w9 = w) : Go mX8_wallWith 3 [(0, eR 33), (1, (0, x)), (2, (0, y)), (3, (0, side)), (4, (0, k))] [] w r w9 := by
  have a1 : ¬ (k < (w 33 33)) := by omega
  refine go_iload (eD DX8_wallWith 2 rfl) rfl (go_aload_n (eD DX8_wallWith 3 rfl) rfl rfl (go_getI (kz := 33) (eD DX8_wallWith 4 rfl) fX8_247 (by decide) rfl rfl rfl (go_icmp_geT (tgt := 145) (eD DX8_wallWith 5 rfl) rfl (by omega) (show eI (w 33 33) from by omega) (Int.not_lt.mp a1) (?_))))
  rw [(k1).1, (k1).2]
  exact go_iconst (eD DX8_wallWith 79 rfl) (go_iret (eD DX8_wallWith 80 rfl) rfl)
theorem y_X8_wallWith (w : eW) {g : Int → Int → Int} {W H : Nat} (hW : W ≤ 14) (hH : H ≤ 10) (hg : ∀ x y, g x y = 1 → 0 ≤ x ∧ x < W ∧ 0 ≤ y ∧ y < H) (hR : RM w (wAl g W H 4)) (hv : ∀ k, 0 ≤ k → k < wAl g W H 4 0 0 → (0 ≤ w 41 k ∧ w 41 k < 4) ∧ (0 ≤ w 42 k ∧ w 42 k < 100) ∧ (0 ≤ w 43 k ∧ w 43 k < 100) ∧ 0 ≤ w 44 k ∧ w 44 k < 1000) {x y side : Int} (a1 : 0 ≤ side) (a2 : side < 4) (a3 : 0 ≤ x) (a4 : x < 14) (a5 : 0 ≤ y) (a6 : y < 10) :
    Cal mX8_wallWith [eR 33, (0, x), (0, y), (0, side)] w (some (0, if wlI g side x y then wAl g W H 4 5 (side * 140 + y * 14 + x) else -1)) w := by
  obtain ⟨h1, h2⟩ := hR
  obtain ⟨s1, s2, s3⟩ := wall_sem hW hH hg a1 a2 a3 a4 a5 a6
  have hb := wAl_bound g W H hW hH 4
  refine Cal.of (by decide +kernel) (Nat.le_of_ble_eq_true rfl) (tX8_wallWith_0 w x y side ?_)
  refine loop_up (P := fun k => (∀ i, 0 ≤ i → i < k → ¬ cov (wAl g W H 4) i side x y) → Go mX8_wallWith 3 [(0, eR 33), (1, (0, x)), (2, (0, y)), (3, (0, side)), (4, (0, k))] [] w (some (0, if wlI g side x y then wAl g W H 4 5 (side * 140 + y * 14 + x) else -1)) w) 0 (wAl g W H 4 0 0) ?_ ?_ 0 (by omega) (by omega) (fun i z1 z2 => by omega)
  · intro hno
    have hnw : ¬ wlI g side x y := fun hw => by
      have := s2 hw
      exact hno _ this.1 this.2 ((s3 _ this.1 this.2).mpr rfl)
    rw [if_neg hnw]
    apply tX8_wallWithB_3 w _ _ _ _ (by omega) (by omega)
    all_goals (intros; first | exact ⟨rfl, rfl⟩ | (exfalso; omega))
  · intro k hk1 hk2 ih hno
    obtain ⟨e1, e2, e3, e4⟩ := h2 k hk1 hk2
    have hvk := hv k hk1 hk2
    have hcov : cov (wAl g W H 4) k side x y ↔ (w 41 k = side ∧ ((side = 0 ∨ side = 2) → w 43 k = y ∧ w 42 k ≤ x ∧ x < w 42 k + w 44 k) ∧ (¬ (side = 0 ∨ side = 2) → w 42 k = x ∧ w 43 k ≤ y ∧ y < w 43 k + w 44 k)) := by
      unfold cov
      rw [e1, e2, e3, e4]
    by_cases hc : cov (wAl g W H 4) k side x y
    · have hk := (s3 k hk1 hk2).mp hc
      have hw : wlI g side x y := Classical.byContradiction fun hn => by have := s1 hn; omega
      rw [if_pos hw, hk]
      obtain ⟨q1, q2, q3⟩ := hcov.mp hc
      by_cases hl : side = 0 ∨ side = 2
      · have := q2 hl
        apply tX8_wallWithA_3 w _ _ _ _ (by omega) (by omega) (by omega) (by omega) (by omega) hvk.1 hvk.2.1 hvk.2.2.1 hvk.2.2.2
        all_goals (intros; first | exact ⟨rfl, rfl⟩ | (exfalso; omega))
      · have := q3 hl
        apply tX8_wallWithA_3 w _ _ _ _ (by omega) (by omega) (by omega) (by omega) (by omega) hvk.1 hvk.2.1 hvk.2.2.1 hvk.2.2.2
        all_goals (intros; first | exact ⟨rfl, rfl⟩ | (exfalso; omega))
    · have hih := ih (fun i z1 z2 => by
        by_cases hi : i = k
        · rw [hi]; exact hc
        · exact hno i z1 (by omega))
      have hn2 := mt hcov.mpr hc
      apply tX8_wallWithA_3 w _ _ _ _ (by omega) (by omega) (by omega) (by omega) (by omega) hvk.1 hvk.2.1 hvk.2.2.1 hvk.2.2.2
      all_goals (intros; first | with_reducible exact hih | (exfalso; exact hn2 ⟨by omega, fun z => by omega, fun z => by omega⟩) | (exfalso; omega))
