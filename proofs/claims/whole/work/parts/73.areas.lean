theorem itr_clo {T : eP} : ∀ (n : Nat) (a b c d : Int), itr T n a b → T c d → adj a b c d → itr T n c d := by
  intro n
  induction n with
  | zero => intro a b c d _ h _; exact h
  | succ n ih =>
    intro a b c d h1 h2 h3
    have := ih a b c d h1.1 h2 h3
    exact ⟨this, fun z => h1.2 (pc_st z h1.1 (adj_sy h3))⟩
theorem pc_clo {T : eP} (n : Nat) {a b c d : Int} (h : pc (itr T n) a b) (h2 : T c d) (h3 : adj a b c d) : pc (itr T n) c d := pc_st h (itr_clo n a b c d (pc_in h) h2 h3) h3
section LAYS
variable {wz w : eW} {p q sX iX sY iY : Int} {n : Nat}
theorem lay_d (hM : MB wz) (hsp : ∀ k, 140 ≤ k → k < 144 → 1 ≤ wz 38 k ∧ wz 38 k ≤ 9) (hp : 0 ≤ p ∧ p ≤ 10000) (hq : 1 ≤ q ∧ q ≤ 10000) (hL : LAY wz w p q sX iX sY iY n) : (0 ≤ mX wz p q ∧ 0 ≤ mY wz p q) ∧ (0 ≤ fX wz p q ∧ fX wz p q < q) ∧ (0 ≤ fY wz p q ∧ fY wz p q < q) ∧ sup 14 10 (sT (gM wz) (mX wz p q) (mY wz p q)) := by
  obtain ⟨⟨c1, c2, c3, c4, c5, c6, c7, c8, c9, c10⟩, c11, c12, c13⟩ := id hM
  have s0 := hsp 140 (by decide) (by decide)
  have s1 := hsp 141 (by decide) (by decide)
  have s2 := hsp 142 (by decide) (by decide)
  have s3 := hsp 143 (by decide) (by decide)
  have dX : 0 ≤ wz 38 141 * p + wz 38 143 * p := by
    have := Int.mul_nonneg (show 0 ≤ wz 38 141 by omega) hp.1
    have := Int.mul_nonneg (show 0 ≤ wz 38 143 by omega) hp.1
    omega
  have dY : 0 ≤ wz 38 142 * p + wz 38 140 * p := by
    have := Int.mul_nonneg (show 0 ≤ wz 38 142 by omega) hp.1
    have := Int.mul_nonneg (show 0 ≤ wz 38 140 by omega) hp.1
    omega
  have m0 : 0 ≤ mX wz p q := Int.ediv_nonneg dX (by omega)
  have n0 : 0 ≤ mY wz p q := Int.ediv_nonneg dY (by omega)
  exact ⟨⟨m0, n0⟩, ⟨Int.emod_nonneg _ (by omega), Int.emod_lt_of_pos _ (by omega)⟩, ⟨Int.emod_nonneg _ (by omega), Int.emod_lt_of_pos _ (by omega)⟩, sT_sup gM_in c2 c4 m0 n0⟩
theorem lay_b (hM : MB wz) (hsp : ∀ k, 140 ≤ k → k < 144 → 1 ≤ wz 38 k ∧ wz 38 k ≤ 9) (hp : 0 ≤ p ∧ p ≤ 10000) (hq : 1 ≤ q ∧ q ≤ 10000) (hL : LAY wz w p q sX iX sY iY n) : (∀ i, 0 ≤ i → i < w 33 42 → -300000 ≤ w 45 i ∧ w 45 i ≤ 300000) ∧ ∀ i, 0 ≤ i → i < w 33 43 → -300000 ≤ w 48 i ∧ w 48 i ≤ 300000 := by
  obtain ⟨⟨c1, c2, c3, c4, c5, c6, c7, c8, c9, c10⟩, c11, c12, c13⟩ := id hM
  obtain ⟨l1, l2, l3, l4, l5, l6, l7, l8, l9⟩ := hL
  exact ⟨fun i z1 z2 => enP_b hp hq (hsp 143 (by decide) (by decide)) (hsp 141 (by decide) (by decide)) (by omega) (l3.2.2.1 i z1 z2), fun i z1 z2 => enP_b hp hq (hsp 140 (by decide) (by decide)) (hsp 142 (by decide) (by decide)) (by omega) (l4.2.2.1 i z1 z2)⟩
/-- cells that are left lie within the lines; how wide, how high they are -/
theorem lay_in (hM : MB wz) (hsp : ∀ k, 140 ≤ k → k < 144 → 1 ≤ wz 38 k ∧ wz 38 k ≤ 9) (hp : 0 ≤ p ∧ p ≤ 10000) (hq : 1 ≤ q ∧ q ≤ 10000) (hL : LAY wz w p q sX iX sY iY n) {a b : Int} (h : lf iX iY sX sY (sT (gM wz) (mX wz p q) (mY wz p q)) a b) : ((0 ≤ a ∧ a < w 33 42 - 1) ∧ 0 ≤ b ∧ b < w 33 43 - 1) ∧ (w 45 (a + 1) - w 45 a = if br sX iX a = 1 then fX wz p q else q - fX wz p q) ∧ (w 48 (b + 1) - w 48 b = if br sY iY b = 1 then fY wz p q else q - fY wz p q) := by
  have d := lay_d hM hsp hp hq hL
  obtain ⟨l1, l2, l3, l4, l5, l6, l7, l8, l9⟩ := hL
  have := lf_in gM_in l5.2.1 l6.2.1 d.1.1 d.1.2 h
  have k1 := l5.2.2.2.2.2 a this.1.1 this.1.2
  have k2 := l6.2.2.2.2.2 b this.2.1 this.2.2
  refine ⟨⟨⟨k1.1.1, by omega⟩, k2.1.1, by omega⟩, ?_, ?_⟩
  · rw [k1.2.1, k1.2.2]
    split <;> omega
  · rw [k2.2.1, k2.2.2]
    split <;> omega
theorem lay_sum (hM : MB wz) (hsp : ∀ k, 140 ≤ k → k < 144 → 1 ≤ wz 38 k ∧ wz 38 k ≤ 9) (hp : 0 ≤ p ∧ p ≤ 10000) (hq : 1 ≤ q ∧ q ≤ 10000) (hL : LAY wz w p q sX iX sY iY n) {C : eP} (hC : ∀ a b c d, (sT (gM wz) (mX wz p q) (mY wz p q)) a b → (sT (gM wz) (mX wz p q) (mY wz p q)) c d → adj a b c d → C a b → C c d) {t : Int → Int → Int} (ht : ∀ a b, 0 ≤ a → a < w 33 42 - 1 → 0 ≤ b → b < w 33 43 - 1 → ((lf iX iY sX sY (sT (gM wz) (mX wz p q) (mY wz p q)) a b ∧ C (bq sX iX a) (bq sY iY b)) → t a b = (w 45 (a + 1) - w 45 a) * (w 48 (b + 1) - w 48 b)) ∧ (¬ (lf iX iY sX sY (sT (gM wz) (mX wz p q) (mY wz p q)) a b ∧ C (bq sX iX a) (bq sY iY b)) → t a b = 0)) : sumI (fun b => sumI (fun a => t a b) 0 (w 33 42 - 1)) 0 (w 33 43 - 1) = arF (fun k l => (sT (gM wz) (mX wz p q) (mY wz p q)) k l ∧ C k l) q (fX wz p q) (fY wz p q) := by
  have d := lay_d hM hsp hp hq hL
  obtain ⟨l1, l2, l3, l4, l5, l6, l7, l8, l9⟩ := id hL
  unfold arF
  rw [← wsum (P := fun a b => lf iX iY sX sY (sT (gM wz) (mX wz p q) (mY wz p q)) a b ∧ C (bq sX iX a) (bq sY iY b)) (i0 := iX) (j0 := iY) (s := sX) (t := sY) (NX := w 33 42 - 1) (NY := w 33 43 - 1) l5.2.1 l6.2.1 l5.1 l6.1 (by omega) (by omega) d.2.2.2 hC (fun z => l5.2.2.1 z) (fun z => l6.2.2.1 z) (fun a b => Iff.rfl) (fun a b z => by
    have := (lay_in hM hsp hp hq hL z.1).1
    exact ⟨this.1.1, this.1.2, this.2.1, this.2.2⟩)]
  refine sumI_congr (fun b b1 b2 => sumI_congr (fun a a1 a2 => ?_))
  by_cases hc : lf iX iY sX sY (sT (gM wz) (mX wz p q) (mY wz p q)) a b ∧ C (bq sX iX a) (bq sY iY b)
  · have := lay_in hM hsp hp hq hL hc.1
    rw [(ht a b a1 a2 b1 b2).1 hc, bI_1 hc, Int.one_mul, this.2.1, this.2.2]
  · rw [(ht a b a1 a2 b1 b2).2 hc, bI_0 hc, Int.zero_mul]
end LAYS
theorem y_X8_areaL {wz w : eW} {p q sX iX sY iY : Int} {n : Nat} (hM : MB wz) (hsp : ∀ k, 140 ≤ k → k < 144 → 1 ≤ wz 38 k ∧ wz 38 k ≤ 9) (hp : 0 ≤ p ∧ p ≤ 10000) (hq : 1 ≤ q ∧ q ≤ 10000) (hL : LAY wz w p q sX iX sY iY n) (hq9 : q ≤ 9999) (what : Int) (hw : what = 0 ∨ what = 1) : (0 ≤ (arF (sT (gM wz) (mX wz p q) (mY wz p q)) q (fX wz p q) (fY wz p q)) ∧ (arF (sT (gM wz) (mX wz p q) (mY wz p q)) q (fX wz p q) (fY wz p q)) < 4611686018427387904) ∧ Go mX8_area 55 [(0, eR 33), (2, (0, q)), (3, (0, what)), (4, (1, 0)), (6, (0, 0))] [] w (some (1, if what = 0 then rdA (arF (sT (gM wz) (mX wz p q) (mY wz p q)) q (fX wz p q) (fY wz p q)) (q * q) else rdB (arF (sT (gM wz) (mX wz p q) (mY wz p q)) q (fX wz p q) (fY wz p q)) (q * q))) (eU (eU w 33 1 0) 33 2 (-1)) := by
  have hbd := lay_b hM hsp hp hq hL
  obtain ⟨l1, l2, l3, l4, l5, l6, l7, l8, l9⟩ := id hL
  have hn9 : (n : Int) ≤ 141 := by
    obtain ⟨n', q1, q2⟩ := isNp_ex (W := 14) (H := 10) (by decide) (by decide) (lay_d hM hsp hp hq hL).2.2.2
    have := isNp_one l7 q1
    have := (ctF_b (W := 14) (H := 10) (by decide) (by decide) (sT (gM wz) (mX wz p q) (mY wz p q))).2
    omega
  generalize ht : (fun a b => if w 51 (30 * b + a) < 0 then 0 else (w 45 (a + 1) - w 45 a) * (w 48 (b + 1) - w 48 b)) = t
  have et : ∀ a b, t a b = if w 51 (30 * b + a) < 0 then 0 else (w 45 (a + 1) - w 45 a) * (w 48 (b + 1) - w 48 b) := fun a b => by rw [← ht]
  have wid : ∀ a b, 0 ≤ a → a < w 33 42 - 1 → 0 ≤ b → b < w 33 43 - 1 → 0 ≤ (w 45 (a + 1) - w 45 a) * (w 48 (b + 1) - w 48 b) ∧ (w 45 (a + 1) - w 45 a) * (w 48 (b + 1) - w 48 b) ≤ 360000000000 := fun a b a1 a2 b1 b2 => by
    have x1 := hbd.1 a a1 (by omega)
    have x2 := hbd.1 (a + 1) (by omega) (by omega)
    have y1 := hbd.2 b b1 (by omega)
    have y2 := hbd.2 (b + 1) (by omega) (by omega)
    have s1 := l3.2.1 a a1 (by omega)
    have s2 := l4.2.1 b b1 (by omega)
    exact q_wid (c := 0) (d := 0) (by omega) (by omega)
  have tb : ∀ a b, 0 ≤ a → a < w 33 42 - 1 → 0 ≤ b → b < w 33 43 - 1 → 0 ≤ t a b ∧ t a b ≤ 360000000000 := fun a b a1 a2 b1 b2 => by
    have := wid a b a1 a2 b1 b2
    rw [et]
    split <;> omega
  have sm : sumI (fun b => sumI (fun a => t a b) 0 (w 33 42 - 1)) 0 (w 33 43 - 1) = (arF (sT (gM wz) (mX wz p q) (mY wz p q)) q (fX wz p q) (fY wz p q)) := by
    have eG : (fun k l => (sT (gM wz) (mX wz p q) (mY wz p q)) k l ∧ True) = (sT (gM wz) (mX wz p q) (mY wz p q)) := by
      funext k l
      exact propext ⟨fun z => z.1, fun z => ⟨z, trivial⟩⟩
    have := lay_sum hM hsp hp hq hL (C := fun _ _ => True) (fun _ _ _ _ _ _ _ _ => trivial) (t := t) (fun a b a1 a2 b1 b2 => by
      have e1 := (l9 a b a1 a2 b1 b2).2.1
      rw [et]
      exact ⟨fun z => if_neg (by have := e1.mp z.1; omega), fun z => if_pos (Classical.byContradiction fun z2 => z ⟨e1.mpr (by omega), trivial⟩)⟩)
    rw [eG] at this
    exact this
  have db : ∀ j i, 0 ≤ j → j ≤ w 33 43 - 1 → 0 ≤ i → i ≤ w 33 42 - 1 → (j < w 33 43 - 1 ∨ i = 0) → 0 ≤ dsP t (w 33 42 - 1) j i ∧ dsP t (w 33 42 - 1) j i ≤ 930 * 360000000000 := fun j i j1 j2 i1 i2 h => dsP_b (M := w 33 43 - 1) (by omega) (by omega) ⟨j1, j2⟩ ⟨i1, i2⟩ (by decide) h tb
  rw [← sm, ← dsP_all]
  refine ⟨by have := db (w 33 43 - 1) 0 (by omega) (by omega) (by omega) (by omega) (Or.inr rfl); omega, ?_⟩
  have key := loop_up (P := fun j => Go mX8_area 55 [(0, eR 33), (2, (0, q)), (3, (0, what)), (4, (1, dsP t (w 33 42 - 1) j 0)), (6, (0, j))] [] w (some (1, if what = 0 then rdA (dsP t (w 33 42 - 1) (w 33 43 - 1) 0) (q * q) else rdB (dsP t (w 33 42 - 1) (w 33 43 - 1) 0) (q * q))) (eU (eU w 33 1 0) 33 2 (-1))) 0 (w 33 43 - 1) ?_ ?_ 0 (by omega) (by omega)
  · rw [dsP_0] at key
    exact key
  · apply tX8_area_55 w _ _ _ _ ⟨by omega, hq9⟩ l2 (by omega) (by omega) (by have := db (w 33 43 - 1) 0 (by omega) (by omega) (by omega) (by omega) (Or.inr rfl); omega)
    · intro z; omega
    · intro _ z; rw [if_pos z]; exact ⟨rfl, rfl⟩
    · intro _ z; rw [if_neg z]; exact ⟨rfl, rfl⟩
  · intro j hj1 hj2 ih
    have row := loop_up (P := fun k => Go mX8_area 69 [(0, eR 33), (2, (0, q)), (3, (0, what)), (4, (1, dsP t (w 33 42 - 1) j k)), (6, (0, j)), (7, (0, k))] [] w (some (1, if what = 0 then rdA (dsP t (w 33 42 - 1) (w 33 43 - 1) 0) (q * q) else rdB (dsP t (w 33 42 - 1) (w 33 43 - 1) 0) (q * q))) (eU (eU w 33 1 0) 33 2 (-1))) 0 (w 33 42 - 1) ?_ ?_ 0 (by omega) (by omega)
    · apply tX8_area_55 w _ _ _ _ ⟨by omega, hq9⟩ l2 (by omega) (by omega) (by have := db j 0 hj1 (by omega) (by omega) (by omega) (Or.inr rfl); omega)
      · intro _; exact row
      · intro z; omega
      · intro z; omega
    · rw [dsP_j hj1] at ih
      apply tX8_area_69 w _ _ _ _ _ l2 (by omega) (by omega) (fun z => absurd z (by omega))
      · intro z; omega
      · intro z; omega
      · intro _; exact ih
    · intro k hk1 hk2 ihk
      rw [dsP_i hk1, et] at ihk
      have lb := (l9 k j hk1 (by omega) hj1 (by omega)).1
      have x1 := hbd.1 k hk1 (by omega)
      have x2 := hbd.1 (k + 1) (by omega) (by omega)
      have y1 := hbd.2 j hj1 (by omega)
      have y2 := hbd.2 (j + 1) (by omega) (by omega)
      apply tX8_area_69 w _ _ _ _ _ l2 (by omega) (by omega) (fun _ => ⟨by omega, x1, x2, y1, y2⟩)
      · intro _ z; rw [if_pos z, Int.add_zero] at ihk; exact ihk
      · intro _ z; rw [if_neg z] at ihk; exact ihk
      · intro z; omega
theorem y_X8_pieceL {wz w : eW} {p q sX iX sY iY : Int} {n : Nat} (hM : MB wz) (hsp : ∀ k, 140 ≤ k → k < 144 → 1 ≤ wz 38 k ∧ wz 38 k ≤ 9) (hp : 0 ≤ p ∧ p ≤ 10000) (hq : 1 ≤ q ∧ q ≤ 10000) (hL : LAY wz w p q sX iX sY iY n) (hq9 : q ≤ 9999) (what : Int) (hw : what = 0 ∨ what = 1) (c : Nat) (hcn : c < n) : (0 ≤ (arF (pc (itr (sT (gM wz) (mX wz p q) (mY wz p q)) c)) q (fX wz p q) (fY wz p q)) ∧ (arF (pc (itr (sT (gM wz) (mX wz p q) (mY wz p q)) c)) q (fX wz p q) (fY wz p q)) < 4611686018427387904) ∧ Go mX8_piece 75 [(0, eR 33), (2, (0, q)), (3, (0, (c : Int))), (4, (0, what)), (5, (1, 0)), (7, (0, 0))] [] w (some (1, if what = 0 then rdA (arF (pc (itr (sT (gM wz) (mX wz p q) (mY wz p q)) c)) q (fX wz p q) (fY wz p q)) (q * q) else rdB (arF (pc (itr (sT (gM wz) (mX wz p q) (mY wz p q)) c)) q (fX wz p q) (fY wz p q)) (q * q))) (eU (eU w 33 1 0) 33 2 (-1)) := by
  have hbd := lay_b hM hsp hp hq hL
  obtain ⟨l1, l2, l3, l4, l5, l6, l7, l8, l9⟩ := id hL
  have hn9 : (n : Int) ≤ 141 := by
    obtain ⟨n', q1, q2⟩ := isNp_ex (W := 14) (H := 10) (by decide) (by decide) (lay_d hM hsp hp hq hL).2.2.2
    have := isNp_one l7 q1
    have := (ctF_b (W := 14) (H := 10) (by decide) (by decide) (sT (gM wz) (mX wz p q) (mY wz p q))).2
    omega
  generalize ht : (fun a b => if w 51 (30 * b + a) = (c : Int) then (w 45 (a + 1) - w 45 a) * (w 48 (b + 1) - w 48 b) else 0) = t
  have et : ∀ a b, t a b = if w 51 (30 * b + a) = (c : Int) then (w 45 (a + 1) - w 45 a) * (w 48 (b + 1) - w 48 b) else 0 := fun a b => by rw [← ht]
  have wid : ∀ a b, 0 ≤ a → a < w 33 42 - 1 → 0 ≤ b → b < w 33 43 - 1 → 0 ≤ (w 45 (a + 1) - w 45 a) * (w 48 (b + 1) - w 48 b) ∧ (w 45 (a + 1) - w 45 a) * (w 48 (b + 1) - w 48 b) ≤ 360000000000 := fun a b a1 a2 b1 b2 => by
    have x1 := hbd.1 a a1 (by omega)
    have x2 := hbd.1 (a + 1) (by omega) (by omega)
    have y1 := hbd.2 b b1 (by omega)
    have y2 := hbd.2 (b + 1) (by omega) (by omega)
    have s1 := l3.2.1 a a1 (by omega)
    have s2 := l4.2.1 b b1 (by omega)
    exact q_wid (c := 0) (d := 0) (by omega) (by omega)
  have tb : ∀ a b, 0 ≤ a → a < w 33 42 - 1 → 0 ≤ b → b < w 33 43 - 1 → 0 ≤ t a b ∧ t a b ≤ 360000000000 := fun a b a1 a2 b1 b2 => by
    have := wid a b a1 a2 b1 b2
    rw [et]
    split <;> omega
  have sm : sumI (fun b => sumI (fun a => t a b) 0 (w 33 42 - 1)) 0 (w 33 43 - 1) = (arF (pc (itr (sT (gM wz) (mX wz p q) (mY wz p q)) c)) q (fX wz p q) (fY wz p q)) := by
    have eG : (fun k l => (sT (gM wz) (mX wz p q) (mY wz p q)) k l ∧ pc (itr (sT (gM wz) (mX wz p q) (mY wz p q)) c) k l) = pc (itr (sT (gM wz) (mX wz p q) (mY wz p q)) c) := by
      funext k l
      exact propext ⟨fun z => z.2, fun z => ⟨itr_sub c k l (pc_in z), z⟩⟩
    have := lay_sum hM hsp hp hq hL (C := pc (itr (sT (gM wz) (mX wz p q) (mY wz p q)) c)) (fun a b c' d z1 z2 z3 z4 => pc_clo c z4 z2 z3) (t := t) (fun a b a1 a2 b1 b2 => by
      have e1 := (l9 a b a1 a2 b1 b2).2.2 c hcn
      rw [lf_pc l5.2.1 l6.2.1] at e1
      rw [et]
      exact ⟨fun z => if_pos (e1.mpr z), fun z => if_neg (fun z2 => z (e1.mp z2))⟩)
    rw [eG] at this
    exact this
  have db : ∀ j i, 0 ≤ j → j ≤ w 33 43 - 1 → 0 ≤ i → i ≤ w 33 42 - 1 → (j < w 33 43 - 1 ∨ i = 0) → 0 ≤ dsP t (w 33 42 - 1) j i ∧ dsP t (w 33 42 - 1) j i ≤ 930 * 360000000000 := fun j i j1 j2 i1 i2 h => dsP_b (M := w 33 43 - 1) (by omega) (by omega) ⟨j1, j2⟩ ⟨i1, i2⟩ (by decide) h tb
  rw [← sm, ← dsP_all]
  refine ⟨by have := db (w 33 43 - 1) 0 (by omega) (by omega) (by omega) (by omega) (Or.inr rfl); omega, ?_⟩
  have key := loop_up (P := fun j => Go mX8_piece 75 [(0, eR 33), (2, (0, q)), (3, (0, (c : Int))), (4, (0, what)), (5, (1, dsP t (w 33 42 - 1) j 0)), (7, (0, j))] [] w (some (1, if what = 0 then rdA (dsP t (w 33 42 - 1) (w 33 43 - 1) 0) (q * q) else rdB (dsP t (w 33 42 - 1) (w 33 43 - 1) 0) (q * q))) (eU (eU w 33 1 0) 33 2 (-1))) 0 (w 33 43 - 1) ?_ ?_ 0 (by omega) (by omega)
  · rw [dsP_0] at key
    exact key
  · apply tX8_piece_75 w _ _ _ _ _ ⟨by omega, hq9⟩ l2 (by omega) (by omega) (by have := db (w 33 43 - 1) 0 (by omega) (by omega) (by omega) (by omega) (Or.inr rfl); omega)
    · intro z; omega
    · intro _ z; rw [if_pos z]; exact ⟨rfl, rfl⟩
    · intro _ z; rw [if_neg z]; exact ⟨rfl, rfl⟩
  · intro j hj1 hj2 ih
    have row := loop_up (P := fun k => Go mX8_piece 89 [(0, eR 33), (2, (0, q)), (3, (0, (c : Int))), (4, (0, what)), (5, (1, dsP t (w 33 42 - 1) j k)), (7, (0, j)), (8, (0, k))] [] w (some (1, if what = 0 then rdA (dsP t (w 33 42 - 1) (w 33 43 - 1) 0) (q * q) else rdB (dsP t (w 33 42 - 1) (w 33 43 - 1) 0) (q * q))) (eU (eU w 33 1 0) 33 2 (-1))) 0 (w 33 42 - 1) ?_ ?_ 0 (by omega) (by omega)
    · apply tX8_piece_75 w _ _ _ _ _ ⟨by omega, hq9⟩ l2 (by omega) (by omega) (by have := db j 0 hj1 (by omega) (by omega) (by omega) (Or.inr rfl); omega)
      · intro _; exact row
      · intro z; omega
      · intro z; omega
    · rw [dsP_j hj1] at ih
      apply tX8_piece_89 w _ _ _ _ _ _ l2 (by omega) (by omega) (by omega) (fun z => absurd z (by omega))
      · intro z; omega
      · intro z; omega
      · intro _; exact ih
    · intro k hk1 hk2 ihk
      rw [dsP_i hk1, et] at ihk
      have lb := (l9 k j hk1 (by omega) hj1 (by omega)).1
      have x1 := hbd.1 k hk1 (by omega)
      have x2 := hbd.1 (k + 1) (by omega) (by omega)
      have y1 := hbd.2 j hj1 (by omega)
      have y2 := hbd.2 (j + 1) (by omega) (by omega)
      apply tX8_piece_89 w _ _ _ _ _ _ l2 (by omega) (by omega) (by omega) (fun _ => ⟨by omega, x1, x2, y1, y2⟩)
      · intro _ z; rw [if_pos z] at ihk; exact ihk
      · intro _ z; rw [if_neg z, Int.add_zero] at ihk; exact ihk
      · intro z; omega
