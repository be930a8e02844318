/-! events: what becomes of the pieces of S when only S' stands -/
noncomputable def npF (F : eP) : Nat := Classical.epsilon (isNp F)
theorem npF_is {F : eP} {n : Nat} (h : isNp F n) : npF F = n := isNp_one (Classical.epsilon_spec ⟨n, h⟩) h
theorem npF_sup {F : eP} (h : sup 14 10 F) : isNp F (npF F) ∧ npF F ≤ 140 := by
  obtain ⟨n, h1, h2⟩ := isNp_ex (W := 14) (H := 10) (by decide) (by decide) h
  have l0 := ctF_b (W := 14) (H := 10) (by decide) (by decide) F
  rw [npF_is h1]
  exact ⟨h1, by omega⟩
noncomputable def chN (S S' : eP) (c : Int) : Int := NQ 14 10 S' (pc (itr S c.toNat))
noncomputable def evE (S S' : eP) (n : Int) : Int := sumI (fun c => bI (chN S S' c = 0)) 0 n
noncomputable def evP (S S' : eP) (n : Int) : Int := sumI (fun c => bI (1 < chN S S' c)) 0 n
theorem sumI_swap (f : Int → Int → Int) (a b c d : Int) : sumI (fun i => sumI (fun j => f i j) c d) a b = sumI (fun j => sumI (fun i => f i j) a b) c d := by
  by_cases h : a ≤ b
  · have key : ∀ n : Nat, sumI (fun i => sumI (fun j => f i j) c d) a (a + n) = sumI (fun j => sumI (fun i => f i j) a (a + n)) c d := by
      intro n
      induction n with
      | zero =>
        rw [show a + ((0 : Nat) : Int) = a by omega, sumI_self]
        exact (sumI_z (fun j _ _ => sumI_self _ _)).symm
      | succ n ih =>
        rw [show a + ((n + 1 : Nat) : Int) = a + n + 1 by omega, sumI_succ _ (by omega), ih, ← sumI_add]
        exact sumI_congr (fun j _ _ => (sumI_succ (fun i => f i j) (by omega)).symm)
    have := key (b - a).toNat
    rw [show a + ((b - a).toNat : Int) = b by omega] at this
    exact this
  · have e : ∀ g : Int → Int, sumI g a b = 0 := fun g => by unfold sumI; rw [show (b - a).toNat = 0 by omega]; rfl
    rw [e]
    exact (sumI_z (fun j _ _ => e _)).symm
/-- each cell is in one piece -/
theorem pc_sum {S : eP} (x y : Int) : ∀ n : Nat, sumI (fun c => bI (pc (itr S c.toNat) x y)) 0 n = bI (S x y) - bI (itr S n x y) := by
  intro n
  induction n with
  | zero => rw [show ((0 : Nat) : Int) = 0 from rfl, sumI_self]; show 0 = bI (S x y) - bI (S x y); omega
  | succ n ih =>
    rw [show ((n + 1 : Nat) : Int) = (n : Int) + 1 by omega, sumI_succ _ (by omega), ih, Int.toNat_natCast]
    have e : bI (itr S n x y) = bI (pc (itr S n) x y) + bI (itr S (n + 1) x y) := by
      by_cases h : pc (itr S n) x y
      · rw [bI_1 h, bI_1 (pc_in h), bI_0 (fun z => z.2 h)]; rfl
      · by_cases h2 : itr S n x y
        · rw [bI_0 h, bI_1 h2, bI_1 (show itr S (n + 1) x y from ⟨h2, h⟩)]; rfl
        · rw [bI_0 h, bI_0 h2, bI_0 (fun z => h2 z.1)]; rfl
    omega
theorem chN_sum {S S' : eP} {n : Nat} (hn : isNp S n) (hsub : ∀ x y, S' x y → S x y) (hs : sup 14 10 S') : sumI (fun c => chN S S' c) 0 n = npF S' := by
  have e0 := NQ_all hs (npF_sup hs).1
  rw [← e0]
  unfold chN NQ
  rw [sumI_swap]
  refine sumI_congr (fun y _ _ => ?_)
  rw [sumI_swap]
  refine sumI_congr (fun x _ _ => ?_)
  by_cases h : fsC S' x y
  · rw [bI_1 (show fsC S' x y ∧ True from ⟨h, trivial⟩), sumI_congr (g := fun c => bI (pc (itr S c.toNat) x y)) (fun c _ _ => bI_congr ⟨fun z => z.2, fun z => ⟨h, z⟩⟩), pc_sum, bI_1 (hsub x y h.1), bI_0 (hn.2 x y)]
    rfl
  · rw [bI_0 (fun z => h z.1)]
    exact sumI_z (fun c _ _ => bI_0 (fun z => h z.1))
theorem chN_b (S S' : eP) (c : Int) : 0 ≤ chN S S' c ∧ chN S S' c ≤ 140 := by
  unfold chN NQ
  refine ⟨sumI_nn (fun y _ _ => sumI_nn (fun x _ _ => (bI_01 _).1)), ?_⟩
  have := sumI_bound (f := fun y => sumI (fun x => bI (fsC S' x y ∧ pc (itr S c.toNat) x y)) 0 14) (a := 0) (b := 10) (lo := 0) (hi := 14) (by decide) (fun y _ _ => by
    have := sumI_bound (f := fun x => bI (fsC S' x y ∧ pc (itr S c.toNat) x y)) (a := 0) (b := 14) (lo := 0) (hi := 1) (by decide) (fun x _ _ => bI_01 _)
    show 0 ≤ sumI _ 0 14 ∧ sumI _ 0 14 ≤ 14
    omega)
  omega
theorem ev_cb {f : Int → Prop} {n : Int} (hn : 0 ≤ n ∧ n ≤ 140) : 0 ≤ sumI (fun c => bI (f c)) 0 n ∧ sumI (fun c => bI (f c)) 0 n ≤ 140 := by
  have := sumI_bound (f := fun c => bI (f c)) (a := 0) (b := n) (lo := 0) (hi := 1) hn.1 (fun c _ _ => bI_01 _)
  omega
/-- the class: how many end, fall apart, are there then -/
theorem y_X4_noteChanges (w : eW) {S S' : eP} (hS : SB w 25 S) (hS' : SB w 26 S') (hsub : ∀ x y, S' x y → S x y) (hc : 0 ≤ w 24 8 ∧ w 24 8 < 24) : ∃ w1, Cal mX4_noteChanges [eR 24] w none w1 ∧ Fr [24, 25, 27, 28, 29, 30] w w1 ∧ (∀ i, i ≠ 8 → w1 24 i = w 24 i) ∧ (0 < evE S S' (npF S) + evP S S' (npF S) → w1 24 8 = w 24 8 + 1 ∧ (∀ i, i < w 24 8 * 5 → w1 30 i = w 30 i) ∧ w1 30 (w 24 8 * 5) = w 31 0 ∧ w1 30 (w 24 8 * 5 + 1) = w 31 1 ∧ w1 30 (w 24 8 * 5 + 2) = evE S S' (npF S) ∧ w1 30 (w 24 8 * 5 + 3) = evP S S' (npF S) ∧ w1 30 (w 24 8 * 5 + 4) = npF S') ∧ (¬ 0 < evE S S' (npF S) + evP S S' (npF S) → w1 24 8 = w 24 8 ∧ w1 30 = w 30) := by
  obtain ⟨hn, hn140⟩ := npF_sup hS.2
  have key := loop_up (P := fun k => ∀ w0, Fr [25, 27, 28, 29] w w0 → k ≤ npF S → SB w0 25 (itr S k.toNat) → ∃ w1, Fr [25, 27, 28, 29] w w1 ∧ ∀ (r : Option eV) (w9 : eW), Go mX4_noteChanges 120 [(0, eR 24), (1, (0, evE S S' (npF S))), (2, (0, evP S S' (npF S))), (3, (0, sumI (fun c => chN S S' c) 0 (npF S)))] [] w1 r w9 → Go mX4_noteChanges 9 [(0, eR 24), (1, (0, evE S S' k)), (2, (0, evP S S' k)), (3, (0, sumI (fun c => chN S S' c) 0 k)), (4, (0, k))] [] w0 r w9) 0 140 ?_ ?_ 0 (by omega) (by omega) w Fr.rf (by omega) hS
  · obtain ⟨w1, f1, k1⟩ := key
    have b1 := ev_cb (f := fun c => chN S S' c = 0) (n := npF S) (by omega)
    have b2 := ev_cb (f := fun c => 1 < chN S S' c) (n := npF S) (by omega)
    have e24 : w1 24 = w 24 := f1 24 (by decide)
    have e30 : w1 30 = w 30 := f1 30 (by decide)
    have e31 : w1 31 = w 31 := f1 31 (by decide)
    have e0 : evE S S' 0 = 0 ∧ evP S S' 0 = 0 ∧ sumI (fun c => chN S S' c) 0 0 = 0 := ⟨sumI_self _ _, sumI_self _ _, sumI_self _ _⟩
    rw [e0.1, e0.2.1, e0.2.2] at k1
    rw [chN_sum hn hsub hS'.2] at k1
    by_cases hev : 0 < evE S S' (npF S) + evP S S' (npF S)
    · refine ⟨_, Cal.of (by decide +kernel) (Nat.le_of_ble_eq_true rfl) (tX4_noteChanges_0 w (k1 _ _ (tX4_noteChanges_120 w1 _ _ _ (by unfold evE; omega) (by unfold evP; omega) (by rw [e24]; exact hc) (fun _ => ⟨rfl, rfl⟩) (fun z => absurd hev z)))), ?_, ?_, fun _ => ⟨?_, ?_, ?_, ?_, ?_, ?_, ?_⟩, fun z => absurd hev z⟩
      · intro k hk
        simp only [List.mem_cons, List.not_mem_nil, or_false, not_or] at hk
        rw [eU_ne hk.1, eU_ne hk.2.2.2.2.2, eU_ne hk.2.2.2.2.2, eU_ne hk.2.2.2.2.2, eU_ne hk.2.2.2.2.2, eU_ne hk.2.2.2.2.2]
        exact f1 k (by simp only [List.mem_cons, List.not_mem_nil, or_false, not_or]; exact ⟨hk.2.1, hk.2.2.1, hk.2.2.2.1, hk.2.2.2.2.1⟩)
      · intro i hi
        rw [eU_get, if_neg hi, eU_ne (by decide), eU_ne (by decide), eU_ne (by decide), eU_ne (by decide), eU_ne (by decide), e24]
      · rw [eU_get, if_pos rfl, e24]
      · intro i hi
        rw [eU_ne (by decide), e24, eU_get, if_neg (by omega), eU_get, if_neg (by omega), eU_get, if_neg (by omega), eU_get, if_neg (by omega), eU_get, if_neg (by omega), e30]
      · rw [eU_ne (by decide), e24, eU_get, if_neg (by omega), eU_get, if_neg (by omega), eU_get, if_neg (by omega), eU_get, if_neg (by omega), eU_get, if_pos rfl, e31]
      · rw [eU_ne (by decide), e24, eU_get, if_neg (by omega), eU_get, if_neg (by omega), eU_get, if_neg (by omega), eU_get, if_pos rfl, e31]
      · rw [eU_ne (by decide), e24, eU_get, if_neg (by omega), eU_get, if_neg (by omega), eU_get, if_pos rfl]
      · rw [eU_ne (by decide), e24, eU_get, if_neg (by omega), eU_get, if_pos rfl]
      · rw [eU_ne (by decide), e24, eU_get, if_pos rfl]
    · refine ⟨w1, Cal.of (by decide +kernel) (Nat.le_of_ble_eq_true rfl) (tX4_noteChanges_0 w (k1 _ _ (tX4_noteChanges_120 w1 _ _ _ (by unfold evE; omega) (by unfold evP; omega) (by rw [e24]; exact hc) (fun z => absurd z hev) (fun _ => ⟨rfl, rfl⟩)))), f1.mono (by decide), fun i _ => by rw [e24], fun z => absurd z hev, fun _ => ⟨by rw [e24], e30⟩⟩
  · intro w0 f0 hk s0
    have e : (npF S : Int) = 140 := by omega
    rw [e]
    refine ⟨w0, f0, fun r w9 hgo => ?_⟩
    apply tX4_noteChanges_9 w0 _ _ _ _ (w1 := w0) (gg := 0) (Or.inl rfl) (by omega) (fun z => absurd z (by decide))
    · intro z; exact absurd z (by decide)
    · intro z; exact absurd z (by decide)
    · intro _; exact hgo
  · intro k hk1 hk2 ih w0 f0 hk s0
    obtain ⟨wa, a1, a2, a3, a4⟩ := y_X4_takePart25 w0 s0
    have fa : Fr [25, 27, 28, 29] w wa := f0.tr (a2.mono (by decide))
    by_cases hkn : k = npF S
    · have he : ¬ ∃ x y, itr S k.toNat x y := fun ⟨x, y, z⟩ => hn.2 x y (by rw [hkn, Int.toNat_natCast] at z; exact z)
      rw [bI_0 he] at a1
      refine ⟨wa, fa, fun r w9 hgo => ?_⟩
      rw [hkn]
      apply tX4_noteChanges_9 w0 _ _ _ _ (Or.inl rfl) (by omega) (fun _ => a1)
      · intro _ _; exact hgo
      · intro _ z; exact absurd rfl z
      · intro z; omega
    · have he : ∃ x y, itr S k.toNat x y := hn.1 k.toNat (by omega)
      rw [bI_1 he] at a1
      have s26 : SB wa 26 S' := SB_fr fa (by decide) hS'
      -- what is left of it
      have rest := loop_up (P := fun y => ∀ w2, Fr [29] wa w2 → (∀ j, 0 ≤ j → j < y → (0 ≤ w2 29 j ∧ w2 29 j < 16384) ∧ ∀ x, hb14 (w2 29 j) x ↔ (S' x j ∧ pc (itr S k.toNat) x j)) → ∃ w3, Fr [29] wa w3 ∧ SB w3 29 (fun a b => S' a b ∧ pc (itr S k.toNat) a b) ∧ ∀ (en sp bh : Int) (r : Option eV) (w9 : eW), Go mX4_noteChanges 34 [(0, eR 24), (1, (0, en)), (2, (0, sp)), (3, (0, bh)), (4, (0, k)), (5, (0, 10))] [] w3 r w9 → Go mX4_noteChanges 34 [(0, eR 24), (1, (0, en)), (2, (0, sp)), (3, (0, bh)), (4, (0, k)), (5, (0, y))] [] w2 r w9) 0 10 ?_ ?_ 0 (by omega) (by omega) wa Fr.rf (fun j z1 z2 => by omega)
      · obtain ⟨w3, r1, r2, r3⟩ := rest
        obtain ⟨w4, np, d1, d2, d3, d4⟩ := y_X4_countParts29 w3 r2
        have enp : (np : Int) = chN S S' k := by
          have e1 := NQ_all r2.2 d1
          rw [NQ_clo (fun a b c d z1 z2 z3 z4 => pc_clo k.toNat z4 (hsub _ _ z2) z3)] at e1
          exact e1.symm
        rw [enp] at d3
        have f4 : Fr [25, 27, 28, 29] w w4 := (fa.tr (r1.mono (by decide))).tr (d4.mono (by decide))
        obtain ⟨w5, k1, k2⟩ := ih w4 f4 (by omega) (by
          rw [show (k + 1).toNat = k.toNat + 1 by omega]
          exact SB_fr d4 (by decide) (SB_fr r1 (by decide) a3))
        refine ⟨w5, k1, fun r w9 hgo => ?_⟩
        have g5 := k2 r w9 hgo
        have x1 : evE S S' (k + 1) = evE S S' k + bI (chN S S' k = 0) := sumI_succ _ hk1
        have x2 : evP S S' (k + 1) = evP S S' k + bI (1 < chN S S' k) := sumI_succ _ hk1
        have x3 : sumI (fun c => chN S S' c) 0 (k + 1) = sumI (fun c => chN S S' c) 0 k + chN S S' k := sumI_succ _ hk1
        rw [x1, x2, x3] at g5
        have cb := chN_b S S' k
        apply tX4_noteChanges_9 w0 _ _ _ _ (Or.inr rfl) (by omega) (fun _ => a1)
        · intro _ z; exact absurd z (by decide)
        · intro _ _
          refine r3 _ _ _ r w9 ?_
          apply tX4_noteChanges_34 w3 _ _ _ _ _ (pp := chN S S' k) (by omega) (by omega) (fun _ => d3)
          · intro z; exact absurd z (by decide)
          · intro _ z1 z2; omega
          · intro _ z1 z2; rw [bI_1 z1, bI_0 z2] at g5; exact g5
          · intro _ z1 z2; rw [bI_0 z1, bI_1 z2] at g5; exact g5
          · intro _ z1 z2; rw [bI_0 z1, bI_0 z2] at g5; exact g5
        · intro z; omega
      · intro w2 f2 hI
        exact ⟨w2, f2, ⟨fun j z1 z2 => hI j z1 z2, fun a b z => hS'.2 a b z.1⟩, fun _ _ _ _ _ h => h⟩
      · intro y hy1 hy2 ihy w2 f2 hI
        have l1 := (SB_fr f2 (by decide) s26).1 y hy1 hy2
        have l2 := (SB_fr f2 (by decide) a4).1 y hy1 hy2
        have an := hb_and l1.1 l2.1
        obtain ⟨w3, r1, r2, r3⟩ := ihy (eU w2 29 y (eAnd (w2 26 y) (w2 27 y))) (f2.put (by decide)) (fun j z1 z2 => by
          rw [eU_get]
          by_cases hj : j = y
          · rw [if_pos hj]
            refine ⟨an.1, fun x => ?_⟩
            rw [an.2, l1.2, l2.2, hj]
          · rw [if_neg hj]
            exact hI j z1 (by omega))
        refine ⟨w3, r1, r2, fun en sp bh r w9 hgo => ?_⟩
        apply tX4_noteChanges_34 w2 _ _ _ _ _ (w2 := w2) (pp := 0) (by decide) (by omega) (fun z => absurd hy2 z)
        · intro _; exact r3 en sp bh r w9 hgo
        all_goals (intro z; exact absurd hy2 z)
