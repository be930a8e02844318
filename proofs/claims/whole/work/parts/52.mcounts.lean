theorem y_X8_facesL (w : eW) (set : Int) (hM : MB w) (hsp : ∀ k, 140 ≤ k → k < 144 → 1 ≤ w 38 k ∧ w 38 k ≤ 9) (hset : eI set) : Go mX8_faces 38 [(0, eR 33), (1, (0, set)), (2, (0, 0)), (3, (0, 0))] [] w (some (0, ptN (w 33 24) (w 33 25) (fun px py => slG (gM w) (w 33 24) (w 33 25) (qM w) px py = set))) (eU (eU w 33 1 0) 33 2 (-1)) := by
  obtain ⟨⟨c1, c2, c3, c4, c5, c6, c7, c8, c9, c10⟩, c11, c12, c13⟩ := id hM
  generalize hP : (fun px py => slG (gM w) (w 33 24) (w 33 25) (qM w) px py = set) = P
  have hPx : ∀ px py, P px py ↔ (slG (gM w) (w 33 24) (w 33 25) (qM w) px py = set) := fun px py => by rw [← hP]
  have key := loop_up (P := fun py => Go mX8_faces 38 [(0, eR 33), (1, (0, set)), (2, (0, ptP (w 33 24) P py 0)), (3, (0, py))] [] w (some (0, ptN (w 33 24) (w 33 25) P)) (eU (eU w 33 1 0) 33 2 (-1))) 0 (4 * w 33 25 + 1) ?_ ?_ 0 (by omega) (by omega)
  · rw [ptP_0] at key
    exact key
  · apply tX8_faces_38 w _ _ _ hM (by omega)
    · intro _; rw [ptP_all]; exact ⟨rfl, rfl⟩
    · intro z; omega
  · intro py hy1 hy2 ih
    have row := loop_up (P := fun px => Go mX8_faces 51 [(0, eR 33), (1, (0, set)), (2, (0, ptP (w 33 24) P py px)), (3, (0, py)), (4, (0, px))] [] w (some (0, ptN (w 33 24) (w 33 25) P)) (eU (eU w 33 1 0) 33 2 (-1))) 0 (4 * w 33 24 + 1) ?_ ?_ 0 (by omega) (by omega)
    · apply tX8_faces_38 w _ _ _ hM (by omega)
      · intro z; omega
      · intro _; exact row
    · apply tX8_faces_51 w _ _ _ _ (sl := 0) hM hset (by omega) (fun z => absurd z (by omega)) (by omega)
      · intro _; rw [ptP_py hy1] at ih; exact ih
      all_goals (intro z; omega)
    · intro px hx1 hx2 ihx
      rw [ptP_px hx1] at ihx
      have cl := y_X8_slopesOf w px py hM hsp (by omega)
      have cb : 0 ≤ slG (gM w) (w 33 24) (w 33 25) (qM w) px py ∧ slG (gM w) (w 33 24) (w 33 25) (qM w) px py < 16 := slQ_b _ _ _ _ _ _ _
      apply tX8_faces_51 w _ _ _ _ hM hset (by omega) (fun _ => cl) (by omega)
      · intro z; omega
      · intro _ z; rw [bI_1 ((hPx px py).mpr z)] at ihx; exact ihx
      · intro _ z; rw [bI_0 (fun q => z ((hPx px py).mp q))] at ihx; exact ihx
theorem y_X8_catchesL (w : eW) (i : Int) (hM : MB w) (hsp : ∀ k, 140 ≤ k → k < 144 → 1 ≤ w 38 k ∧ w 38 k ≤ 9) (hW : RM w (wallsM w)) (hi : eI i) : Go mX8_catches 23 [(0, eR 33), (1, (0, i)), (2, (0, 0)), (3, (0, 0))] [] w (some (0, ptN (w 33 24) (w 33 25) (fun px py => drG (gM w) (w 33 24) (w 33 25) (qM w) (wallsM w) px py = i))) (eU (eU w 33 1 0) 33 2 (-1)) := by
  obtain ⟨⟨c1, c2, c3, c4, c5, c6, c7, c8, c9, c10⟩, c11, c12, c13⟩ := id hM
  generalize hP : (fun px py => drG (gM w) (w 33 24) (w 33 25) (qM w) (wallsM w) px py = i) = P
  have hPx : ∀ px py, P px py ↔ (drG (gM w) (w 33 24) (w 33 25) (qM w) (wallsM w) px py = i) := fun px py => by rw [← hP]
  have key := loop_up (P := fun py => Go mX8_catches 23 [(0, eR 33), (1, (0, i)), (2, (0, ptP (w 33 24) P py 0)), (3, (0, py))] [] w (some (0, ptN (w 33 24) (w 33 25) P)) (eU (eU w 33 1 0) 33 2 (-1))) 0 (4 * w 33 25 + 1) ?_ ?_ 0 (by omega) (by omega)
  · rw [ptP_0] at key
    exact key
  · apply tX8_catches_23 w _ _ _ hM (by omega)
    · intro _; rw [ptP_all]; exact ⟨rfl, rfl⟩
    · intro z; omega
  · intro py hy1 hy2 ih
    have row := loop_up (P := fun px => Go mX8_catches 36 [(0, eR 33), (1, (0, i)), (2, (0, ptP (w 33 24) P py px)), (3, (0, py)), (4, (0, px))] [] w (some (0, ptN (w 33 24) (w 33 25) P)) (eU (eU w 33 1 0) 33 2 (-1))) 0 (4 * w 33 24 + 1) ?_ ?_ 0 (by omega) (by omega)
    · apply tX8_catches_23 w _ _ _ hM (by omega)
      · intro z; omega
      · intro _; exact row
    · apply tX8_catches_36 w _ _ _ _ (sl := 0) hM hi (by omega) (fun z => absurd z (by omega)) (by omega)
      · intro _; rw [ptP_py hy1] at ih; exact ih
      all_goals (intro z; omega)
    · intro px hx1 hx2 ihx
      rw [ptP_px hx1] at ihx
      obtain ⟨cb, cl⟩ := y_X8_dropOf w px py hM hsp hW (by omega)
      apply tX8_catches_36 w _ _ _ _ hM hi (by omega) (fun _ => cl) (by omega)
      · intro z; omega
      · intro _ z; rw [bI_1 ((hPx px py).mpr z)] at ihx; exact ihx
      · intro _ z; rw [bI_0 (fun q => z ((hPx px py).mp q))] at ihx; exact ihx
theorem y_X8_pointsL (w : eW) (a b : Int) (hM : MB w) (hsp : ∀ k, 140 ≤ k → k < 144 → 1 ≤ w 38 k ∧ w 38 k ≤ 9) (ha : 0 ≤ a ∧ a ≤ 9999) (hb : 1 ≤ b ∧ b ≤ 9999) : Go mX8_points 37 [(0, eR 33), (1, (0, a)), (2, (0, b)), (3, (0, 0)), (4, (0, 0))] [] w (some (0, ptN (w 33 24) (w 33 25) (fun px py => a * 10080 < htM w px py * b))) (eU (eU w 33 1 0) 33 2 (-1)) := by
  obtain ⟨⟨c1, c2, c3, c4, c5, c6, c7, c8, c9, c10⟩, c11, c12, c13⟩ := id hM
  generalize hP : (fun px py => a * 10080 < htM w px py * b) = P
  have hPx : ∀ px py, P px py ↔ (a * 10080 < htM w px py * b) := fun px py => by rw [← hP]
  have key := loop_up (P := fun py => Go mX8_points 37 [(0, eR 33), (1, (0, a)), (2, (0, b)), (3, (0, ptP (w 33 24) P py 0)), (4, (0, py))] [] w (some (0, ptN (w 33 24) (w 33 25) P)) (eU (eU w 33 1 0) 33 2 (-1))) 0 (4 * w 33 25 + 1) ?_ ?_ 0 (by omega) (by omega)
  · rw [ptP_0] at key
    exact key
  · apply tX8_points_37 w _ _ _ _ hM (by omega)
    · intro _; rw [ptP_all]; exact ⟨rfl, rfl⟩
    · intro z; omega
  · intro py hy1 hy2 ih
    have row := loop_up (P := fun px => Go mX8_points 51 [(0, eR 33), (1, (0, a)), (2, (0, b)), (3, (0, ptP (w 33 24) P py px)), (4, (0, py)), (5, (0, px))] [] w (some (0, ptN (w 33 24) (w 33 25) P)) (eU (eU w 33 1 0) 33 2 (-1))) 0 (4 * w 33 24 + 1) ?_ ?_ 0 (by omega) (by omega)
    · apply tX8_points_37 w _ _ _ _ hM (by omega)
      · intro z; omega
      · intro _; exact row
    · apply tX8_points_51 w _ _ _ _ _ (sl := 0) hM (by omega) (by omega) (by omega) (by omega) (fun z => absurd z (by omega)) (by omega)
      · intro _; rw [ptP_py hy1] at ih; exact ih
      all_goals (intro z; omega)
    · intro px hx1 hx2 ihx
      rw [ptP_px hx1] at ihx
      obtain ⟨_, cb, cl⟩ := y_X8_height w px py hM hsp (by omega)
      have hpr : 0 ≤ htM w px py * b ∧ htM w px py * b ≤ 200000 * 9999 := ⟨Int.mul_nonneg cb.1 (by omega), Int.mul_le_mul cb.2 hb.2 (by omega) (by omega)⟩
      apply tX8_points_51 w _ _ _ _ _ hM (by omega) (by omega) (by omega) (by omega) (fun _ => cl) (by omega)
      · intro z; omega
      · intro _ z; rw [bI_1 ((hPx px py).mpr z)] at ihx; exact ihx
      · intro _ z; rw [bI_0 (fun q => z ((hPx px py).mp q))] at ihx; exact ihx
theorem y_X8_highestL (w : eW) (what : Int) (hM : MB w) (hsp : ∀ k, 140 ≤ k → k < 144 → 1 ≤ w 38 k ∧ w 38 k ≤ 9) (hw : what = 0 ∨ what = 1) : ∃ x y, isHi (w 33 24) (w 33 25) (htM w) x y ∧ Go mX8_highest 37 [(0, eR 33), (1, (0, what)), (2, (0, -1)), (3, (0, 0)), (4, (0, 0)), (5, (0, 0))] [] w (some (0, if what = 0 then x else y)) (eU (eU w 33 1 0) 33 2 (-1)) := by
  obtain ⟨⟨c1, c2, c3, c4, c5, c6, c7, c8, c9, c10⟩, c11, c12, c13⟩ := id hM
  have hv : ∀ px py, 0 ≤ px → px ≤ 4 * w 33 24 → 0 ≤ py → py ≤ 4 * w 33 25 → (0 ≤ htM w px py ∧ htM w px py ≤ 200000) ∧ Cal mX8_heightOf [eR 33, (0, px), (0, py)] w (some (0, htM w px py)) w := fun px py h1 h2 h3 h4 => (y_X8_height w px py hM hsp (by omega)).2
  have key := loop_up (P := fun py => ∀ best X Y, hiI (w 33 24) (htM w) py 0 best X Y → ∃ b X' Y', hiI (w 33 24) (htM w) (4 * w 33 25 + 1) 0 b X' Y' ∧ Go mX8_highest 37 [(0, eR 33), (1, (0, what)), (2, (0, best)), (3, (0, X)), (4, (0, Y)), (5, (0, py))] [] w (some (0, if what = 0 then X' else Y')) (eU (eU w 33 1 0) 33 2 (-1))) 0 (4 * w 33 25 + 1) ?_ ?_ 0 (by omega) (by omega) (-1) 0 0 (hiI_0 _ _ _ _)
  · obtain ⟨b, X, Y, k1, k2⟩ := key
    exact ⟨X, Y, hiI_end ⟨c1, c3⟩ (hv 0 0 (by omega) (by omega) (by omega) (by omega)).1.1 k1, k2⟩
  · intro best X Y hI
    refine ⟨best, X, Y, hI, ?_⟩
    apply tX8_highest_37 w _ _ _ _ _ hM (by omega) (by omega)
    · intro _ z; rw [if_pos z]; exact ⟨rfl, rfl⟩
    · intro _ z; rw [if_neg z]; exact ⟨rfl, rfl⟩
    · intro z; omega
  · intro py hy1 hy2 ih best X Y hI
    have row := loop_up (P := fun px => ∀ best X Y, hiI (w 33 24) (htM w) py px best X Y → ∃ b X' Y', hiI (w 33 24) (htM w) (py + 1) 0 b X' Y' ∧ ∀ (r : Option eV) (w9 : eW), Go mX8_highest 37 [(0, eR 33), (1, (0, what)), (2, (0, b)), (3, (0, X')), (4, (0, Y')), (5, (0, py + 1))] [] w r w9 → Go mX8_highest 51 [(0, eR 33), (1, (0, what)), (2, (0, best)), (3, (0, X)), (4, (0, Y)), (5, (0, py)), (6, (0, px))] [] w r w9) 0 (4 * w 33 24 + 1) ?_ ?_ 0 (by omega) (by omega) best X Y hI
    · obtain ⟨b, X', Y', k1, k2⟩ := row
      obtain ⟨b2, X2, Y2, l1, l2⟩ := ih b X' Y' k1
      refine ⟨b2, X2, Y2, l1, ?_⟩
      apply tX8_highest_37 w _ _ _ _ _ hM (by omega) (by omega)
      · intro z; omega
      · intro z; omega
      · intro _; exact k2 _ _ l2
    · intro best X Y hI
      refine ⟨best, X, Y, hiI_row hI, fun r w9 h => ?_⟩
      have hb := hI.1
      apply tX8_highest_51 w _ _ _ _ _ _ (sl := 0) hM (by omega) (by omega) (fun z => absurd z (by omega)) (by omega)
      · intro _; exact h
      all_goals (intro z; omega)
    · intro px hx1 hx2 ihx best X Y hI
      obtain ⟨v2, cl⟩ := hv px py hx1 (by omega) hy1 (by omega)
      have hb := hI.1
      by_cases hc : best < htM w px py
      · obtain ⟨b, X', Y', k1, k2⟩ := ihx _ _ _ (hiI_new hI ⟨hx1, by omega⟩ hy1 hc v2.2)
        refine ⟨b, X', Y', k1, fun r w9 h => ?_⟩
        apply tX8_highest_51 w _ _ _ _ _ _ hM (by omega) (by omega) (fun _ => cl) (by omega)
        · intro z; omega
        · intro _ _; exact k2 r w9 h
        · intro _ z; omega
      · obtain ⟨b, X', Y', k1, k2⟩ := ihx _ _ _ (hiI_stay hI (by omega))
        refine ⟨b, X', Y', k1, fun r w9 h => ?_⟩
        apply tX8_highest_51 w _ _ _ _ _ _ hM (by omega) (by omega) (fun _ => cl) (by omega)
        · intro z; omega
        · intro _ z; omega
        · intro _ _; exact k2 r w9 h
theorem sumI_le {f g : Int → Int} {a b : Int} (h : ∀ i, a ≤ i → i < b → f i ≤ g i) : sumI f a b ≤ sumI g a b := by
  by_cases hab : a ≤ b
  · refine loop_up (P := fun k => (∀ i, a ≤ i → i < a + (b - k) → f i ≤ g i) → sumI f a (a + (b - k)) ≤ sumI g a (a + (b - k))) a b ?_ ?_ a (by omega) hab (fun i h1 h2 => h i h1 (by omega)) |> fun q => by rw [show a + (b - a) = b by omega] at q; exact q
    · intro _
      rw [show a + (b - b) = a by omega, sumI_self, sumI_self]
      exact Int.le_refl _
    · intro k h1 h2 ih hk
      have := ih (fun i g1 g2 => hk i g1 (by omega))
      have e := hk (a + (b - (k + 1))) (by omega) (by omega)
      rw [show a + (b - k) = a + (b - (k + 1)) + 1 by omega, sumI_succ f (by omega), sumI_succ g (by omega)]
      omega
  · unfold sumI
    rw [show (b - a).toNat = 0 by omega]
    exact Int.le_refl _
theorem sumI_lt {f g : Int → Int} {a b j : Int} (h : ∀ i, a ≤ i → i < b → f i ≤ g i) (h1 : a ≤ j) (h2 : j < b) (h3 : f j < g j) : sumI f a b < sumI g a b := by
  have e1 := sumI_le (f := f) (g := g) (a := a) (b := j) (fun i g1 g2 => h i g1 (by omega))
  have e2 := sumI_le (f := f) (g := g) (a := j + 1) (b := b) (fun i g1 g2 => h i (by omega) g2)
  rw [sumI_split f h1 (show j ≤ b by omega), sumI_split f (show j ≤ j + 1 by omega) (show j + 1 ≤ b by omega), sumI_split g h1 (show j ≤ b by omega), sumI_split g (show j ≤ j + 1 by omega) (show j + 1 ≤ b by omega), sumI_succ f (Int.le_refl j), sumI_succ g (Int.le_refl j), sumI_self, sumI_self]
  omega
theorem sumI_const (c a : Int) : ∀ n : Nat, sumI (fun _ => c) a (a + n) = n * c := by
  intro n
  induction n with
  | zero => rw [show a + ((0 : Nat) : Int) = a by omega, sumI_self]; simp
  | succ n ih =>
    rw [show a + ((n + 1 : Nat) : Int) = a + n + 1 by omega, sumI_succ _ (by omega), ih, Int.natCast_add, Int.add_mul]
    simp
/-- one that takes no value twice takes all -/
theorem inj_surj : ∀ (n : Nat) (f : Int → Int), (∀ k : Int, 0 ≤ k → k < n → 0 ≤ f k ∧ f k < n) → (∀ k k' : Int, 0 ≤ k → k < n → 0 ≤ k' → k' < n → f k = f k' → k = k') → ∀ i : Int, 0 ≤ i → i < n → ∃ k : Int, 0 ≤ k ∧ k < n ∧ f k = i := by
  intro n
  induction n with
  | zero => intro f _ _ i h1 h2; omega
  | succ n ih =>
    intro f hb hi i h1 h2
    have bn := hb n (by omega) (by omega)
    obtain ⟨P1, P2⟩ : (∀ k : Int, 0 ≤ k → k < n → 0 ≤ (if f n < f k then f k - 1 else f k) ∧ (if f n < f k then f k - 1 else f k) < n) ∧ (∀ k k' : Int, 0 ≤ k → k < n → 0 ≤ k' → k' < n → (if f n < f k then f k - 1 else f k) = (if f n < f k' then f k' - 1 else f k') → k = k') := by
      refine ⟨fun k k1 k2 => ?_, fun k k' k1 k2 k3 k4 e => ?_⟩
      · have b1 := hb k k1 (by omega)
        have ne : f k ≠ f n := fun z => by have := hi k n k1 (by omega) (by omega) (by omega) z; omega
        split <;> omega
      · have ne : f k ≠ f n := fun z => by have := hi k n k1 (by omega) (by omega) (by omega) z; omega
        have ne' : f k' ≠ f n := fun z => by have := hi k' n k3 (by omega) (by omega) (by omega) z; omega
        refine hi k k' k1 (by omega) k3 (by omega) ?_
        split at e <;> split at e <;> omega
    by_cases hv : i = f n
    · exact ⟨n, by omega, by omega, hv.symm⟩
    · have go := fun j j1 j2 => ih (fun k => if f n < f k then f k - 1 else f k) P1 P2 j j1 j2
      by_cases hl : i < f n
      · obtain ⟨k, k1, k2, k3⟩ := go i h1 (by omega)
        refine ⟨k, k1, by omega, ?_⟩
        have k3' : (if f n < f k then f k - 1 else f k) = i := k3
        split at k3' <;> omega
      · obtain ⟨k, k1, k2, k3⟩ := go (i - 1) (by omega) (by omega)
        refine ⟨k, k1, by omega, ?_⟩
        have k3' : (if f n < f k then f k - 1 else f k) = i - 1 := k3
        have ne : f k ≠ f n := fun z => by have := hi k n k1 (by omega) (by omega) (by omega) z; omega
        split at k3' <;> omega
/-- how many of n marks are ahead of the mark k -/
abbrev ahd (ht : Int → Int) (k o : Int) : Prop := ht k < ht o ∨ (ht o = ht k ∧ o < k)
noncomputable def ahP (ht : Int → Int) (n k : Int) : Int := sumI (fun o => bI (ahd ht k o)) 0 n
def isRk (ht : Int → Int) (n i f : Int) : Prop := 0 ≤ f ∧ f < n ∧ ahP ht n f = i ∧ ∀ j, f < j → j < n → ¬ ahP ht n j = i
theorem isRk_one {ht : Int → Int} {n i f f' : Int} (h1 : isRk ht n i f) (h2 : isRk ht n i f') : f = f' := by
  obtain ⟨a1, a2, a3, a4⟩ := h1
  obtain ⟨d1, d2, d3, d4⟩ := h2
  by_cases h : f < f'
  · exact absurd d3 (a4 f' h d2)
  · by_cases h' : f' < f
    · exact absurd a3 (d4 f h' a2)
    · omega
theorem ahP_b {ht : Int → Int} {n k : Int} (hk : 0 ≤ k ∧ k < n) : 0 ≤ ahP ht n k ∧ ahP ht n k < n := by
  have hb : ∀ P : Prop, 0 ≤ bI P ∧ bI P ≤ 1 := fun P => by have := bI_b P; omega
  have e0 := sumI_const 1 0 n.toNat
  rw [show (0 : Int) + (n.toNat : Int) = n by omega] at e0
  refine ⟨?_, ?_⟩
  · have e1 := sumI_le (f := fun _ => 0) (g := fun o => bI (ahd ht k o)) (a := 0) (b := n) (fun i _ _ => (hb _).1)
    have e2 := sumI_const 0 0 n.toNat
    rw [show (0 : Int) + (n.toNat : Int) = n by omega] at e2
    unfold ahP
    omega
  · have e1 := sumI_lt (f := fun o => bI (ahd ht k o)) (g := fun _ => 1) (a := 0) (b := n) (j := k) (fun i _ _ => (hb _).2) hk.1 hk.2 (by show bI (ahd ht k k) < 1; rw [bI_0 (by omega)]; decide)
    unfold ahP
    omega
theorem ahP_lt {ht : Int → Int} {n k k' : Int} (hk : 0 ≤ k ∧ k < n) (h : ahd ht k' k) : ahP ht n k < ahP ht n k' := by
  unfold ahP
  refine sumI_lt (j := k) (fun i _ _ => ?_) hk.1 hk.2 ?_
  · show bI (ahd ht k i) ≤ bI (ahd ht k' i)
    by_cases h1 : ahd ht k i
    · rw [bI_1 h1, bI_1 (by omega)]; exact Int.le_refl _
    · rw [bI_0 h1]; have := bI_b (ahd ht k' i); omega
  · show bI (ahd ht k k) < bI (ahd ht k' k)
    rw [bI_0 (by omega), bI_1 h]; decide
/-- each place is some mark's -/
theorem ahP_all {ht : Int → Int} {n i : Int} (hi : 0 ≤ i ∧ i < n) : ∃ k, 0 ≤ k ∧ k < n ∧ ahP ht n k = i := by
  have e : ((n.toNat : Nat) : Int) = n := by omega
  have := inj_surj n.toNat (ahP ht n) (fun k h1 h2 => by rw [e] at h2 ⊢; exact ahP_b ⟨h1, h2⟩) (fun k k' h1 h2 h3 h4 h5 => by
    rw [e] at h2 h4
    by_cases hc : ahd ht k' k
    · have := ahP_lt (n := n) ⟨h1, h2⟩ hc; omega
    · by_cases hd : ahd ht k k'
      · have := ahP_lt (n := n) ⟨h3, h4⟩ hd; omega
      · omega) i hi.1 (by omega)
  rw [e] at this
  exact this
/-- what a loop over the marks ahead of k has found -/
def rkI (ht : Int → Int) (n i d k f : Int) : Prop := (f = d ∧ ∀ j, 0 ≤ j → j < k → ¬ ahP ht n j = i) ∨ (0 ≤ f ∧ f < k ∧ ahP ht n f = i ∧ ∀ j, f < j → j < k → ¬ ahP ht n j = i)
theorem rkI_0 (ht : Int → Int) (n i d : Int) : rkI ht n i d 0 d := Or.inl ⟨rfl, fun j h1 h2 => by omega⟩
theorem rkI_hit {ht : Int → Int} {n i d k f : Int} (hk : 0 ≤ k) (h : ahP ht n k = i) : rkI ht n i d (k + 1) k := Or.inr ⟨hk, by omega, h, fun j h1 h2 => by omega⟩
theorem rkI_miss {ht : Int → Int} {n i d k f : Int} (hI : rkI ht n i d k f) (h : ¬ ahP ht n k = i) : rkI ht n i d (k + 1) f := by
  rcases hI with ⟨e1, e2⟩ | ⟨e1, e2, e3, e4⟩
  · refine Or.inl ⟨e1, fun j h1 h2 => ?_⟩
    by_cases hj : j = k
    · rw [hj]; exact h
    · exact e2 j h1 (by omega)
  · refine Or.inr ⟨e1, by omega, e3, fun j h1 h2 => ?_⟩
    by_cases hj : j = k
    · rw [hj]; exact h
    · exact e4 j h1 (by omega)
theorem rkI_end {ht : Int → Int} {n i d f : Int} (hi : 0 ≤ i ∧ i < n) (hI : rkI ht n i d n f) : isRk ht n i f := by
  rcases hI with ⟨e1, e2⟩ | ⟨e1, e2, e3, e4⟩
  · obtain ⟨k, k1, k2, k3⟩ := ahP_all (ht := ht) hi
    exact absurd k3 (e2 k k1 k2)
  · exact ⟨e1, e2, e3, e4⟩
theorem rkI_b {ht : Int → Int} {n i d k f : Int} (hI : rkI ht n i d k f) (hd : -1 ≤ d ∧ d ≤ 0) (hk : 0 ≤ k ∧ k ≤ 8) : -1 ≤ f ∧ f ≤ 8 := by
  rcases hI with ⟨e1, e2⟩ | ⟨e1, e2, e3, e4⟩ <;> omega
theorem ahP_succ {ht : Int → Int} {k o : Int} (h : 0 ≤ o) : ahP ht (o + 1) k = ahP ht o k + bI (ahd ht k o) := by
  unfold ahP
  exact sumI_succ (fun o => bI (ahd ht k o)) h
theorem ahP_sb {ht : Int → Int} {k o : Int} (h : 0 ≤ o ∧ o ≤ 8) : 0 ≤ ahP ht o k ∧ ahP ht o k ≤ 8 := by
  have := sumI_bound (f := fun o => bI (ahd ht k o)) (a := 0) (b := o) (lo := 0) (hi := 1) h.1 (fun i _ _ => by have := bI_b (ahd ht k i); show 0 ≤ bI (ahd ht k i) ∧ bI (ahd ht k i) ≤ 1; omega)
  unfold ahP
  omega
theorem y_X8_rankedL (w : eW) (i : Int) (hM : MB w) (hsp : ∀ k, 140 ≤ k → k < 144 → 1 ≤ w 38 k ∧ w 38 k ≤ 9) (hmk : ∀ k, 0 ≤ k → k < 16 → 0 ≤ w 40 k ∧ (k % 2 = 0 → w 40 k ≤ 56) ∧ (k % 2 = 1 → w 40 k ≤ 40)) (hi : 0 ≤ i ∧ i < w 33 26) : ∃ f, isRk (fun k => htM w (w 40 (2 * k)) (w 40 (2 * k + 1))) (w 33 26) i f ∧ Go mX8_ranked 36 [(0, eR 33), (1, (0, i)), (2, (0, -1)), (3, (0, 0))] [] w (some (0, f)) (eU (eU w 33 1 0) 33 2 (-1)) := by
  obtain ⟨⟨c1, c2, c3, c4, c5, c6, c7, c8, c9, c10⟩, c11, c12, c13⟩ := id hM
  generalize hK : (fun k => htM w (w 40 (2 * k)) (w 40 (2 * k + 1))) = htK
  have eK : ∀ k, htK k = htM w (w 40 (2 * k)) (w 40 (2 * k + 1)) := fun k => by rw [← hK]
  have hv : ∀ k, 0 ≤ k → k < 8 → (0 ≤ htK k ∧ htK k ≤ 200000) ∧ Cal mX8_heightOf [eR 33, (0, w 40 (2 * k)), (0, w 40 (2 * k + 1))] w (some (0, htK k)) w := fun k h1 h2 => by
    rw [eK]
    have m1 := hmk (2 * k) (by omega) (by omega)
    have m2 := hmk (2 * k + 1) (by omega) (by omega)
    exact (y_X8_height w _ _ hM hsp (by omega)).2
  have key := loop_up (P := fun k => ∀ f, rkI htK (w 33 26) i (-1) k f → ∃ f', isRk htK (w 33 26) i f' ∧ Go mX8_ranked 36 [(0, eR 33), (1, (0, i)), (2, (0, f)), (3, (0, k))] [] w (some (0, f')) (eU (eU w 33 1 0) 33 2 (-1))) 0 (w 33 26) ?_ ?_ 0 (by omega) (by omega) (-1) (rkI_0 _ _ _ _)
  · exact key
  · intro f hf
    refine ⟨f, rkI_end hi hf, ?_⟩
    apply tX8_ranked_36 w _ _ _ (hh := 0) hM (by omega) (fun z => absurd z (by omega))
    · intro z; omega
    · intro _; exact ⟨rfl, rfl⟩
  · intro k hk1 hk2 ih f hf
    obtain ⟨vk, ck⟩ := hv k hk1 (by omega)
    obtain ⟨f2, hf2⟩ : ∃ f2, rkI htK (w 33 26) i (-1) (k + 1) f2 ∧ f2 = if ahP htK (w 33 26) k = i then k else f := by
      by_cases hc : ahP htK (w 33 26) k = i
      · exact ⟨k, rkI_hit (f := f) hk1 hc, by rw [if_pos hc]⟩
      · exact ⟨f, rkI_miss hf hc, by rw [if_neg hc]⟩
    obtain ⟨f', g1, g2⟩ := ih f2 hf2.1
    rw [hf2.2] at g2
    refine ⟨f', g1, ?_⟩
    have inner := loop_up (P := fun o => Go mX8_ranked 74 [(0, eR 33), (1, (0, i)), (2, (0, f)), (3, (0, k)), (4, (0, htK k)), (5, (0, ahP htK o k)), (6, (0, o))] [] w (some (0, f')) (eU (eU w 33 1 0) 33 2 (-1))) 0 (w 33 26) ?_ ?_ 0 (by omega) (by omega)
    · apply tX8_ranked_36 w _ _ _ hM (by omega) (fun _ => ck)
      · intro _
        have e0 : ahP htK 0 k = 0 := sumI_self _ _
        rw [e0] at inner
        exact inner
      · intro z; omega
    · have hb := ahP_sb (ht := htK) (k := k) (o := w 33 26) (by omega)
      apply tX8_ranked_74 w _ _ _ _ _ _ (hh := 0) hM (by omega) (by omega) (by omega) (by omega) (by omega) (by omega) (fun z => absurd z (by omega))
      · intro z; omega
      · intro z; omega
      · intro z; omega
      · intro z; omega
      · intro _ z; rw [if_pos z] at g2; exact g2
      · intro _ z; rw [if_neg z] at g2; exact g2
    · intro o ho1 ho2 iho
      have hb := ahP_sb (ht := htK) (k := k) (o := o) (by omega)
      obtain ⟨vo, co⟩ := hv o ho1 (by omega)
      rw [ahP_succ ho1] at iho
      apply tX8_ranked_74 w _ _ _ _ _ _ hM (by omega) (by omega) (by omega) (by omega) (by omega) (by omega) (fun _ => co)
      · intro _ z; rw [bI_1 (Or.inl z)] at iho; exact iho
      · intro _ _ z1 z2; rw [bI_1 (Or.inr ⟨z1, z2⟩)] at iho; exact iho
      · intro _ z0 z1 z2; rw [bI_0 (by omega)] at iho; exact iho
      · intro _ z0 z1; rw [bI_0 (by omega)] at iho; exact iho
      · intro z; omega
      · intro z; omega
