theorem ctF_add1 {W H : Int} {Q : eP} {c d : Int} (hs : 0 ≤ c ∧ c < W ∧ 0 ≤ d ∧ d < H) (hn : ¬ Q c d) : ctF W H (fun a b => Q a b ∨ (a = c ∧ b = d)) = ctF W H Q + 1 := by
  unfold ctF
  have e : ∀ b, sumI (fun a => bI (Q a b ∨ (a = c ∧ b = d))) 0 W = sumI (fun a => bI (Q a b)) 0 W + (if b = d then 1 else 0) := by
    intro b
    by_cases hb : b = d
    · rw [if_pos hb, ← sumI_at (a := 0) (b := W) (j := c) (v := 1) hs.1 hs.2.1, ← sumI_add]
      refine sumI_congr (fun a _ _ => ?_)
      by_cases ha : a = c
      · rw [if_pos ha, bI_1 (Or.inr ⟨ha, hb⟩), bI_0 (by rw [ha, hb]; exact hn)]; rfl
      · rw [if_neg ha, Int.add_zero]
        exact bI_congr ⟨fun z => z.elim id (fun z => absurd z.1 ha), Or.inl⟩
    · rw [if_neg hb, Int.add_zero]
      refine sumI_congr (fun a _ _ => bI_congr ⟨fun z => z.elim id (fun z => absurd z.2 hb), Or.inl⟩)
  rw [sumI_congr (fun b _ _ => e b), sumI_add, sumI_at hs.2.2.1 hs.2.2.2]
theorem ctF_none (W H : Int) : ctF W H (fun _ _ => False) = 0 := sumI_z (fun _ _ _ => sumI_z (fun _ _ _ => bI_0 (fun z => z)))
/-- cells that are left and have no number yet -/
def unl (w : eW) : eP := fun a b => 0 ≤ a ∧ a < w 33 42 - 1 ∧ 0 ≤ b ∧ b < w 33 43 - 1 ∧ w 51 (30 * b + a) = -2
/-- the cells Q are met, from x0, y0 on -/
def BQ (w : eW) (x0 y0 : Int) (w0 : eW) (met : Int) (Q : eP) : Prop :=
  Fr [51, 52] w w0 ∧ (∀ a b, Q a b → cn (unl w) x0 y0 a b) ∧
  (∀ a b, 0 ≤ a → a < w 33 42 - 1 → 0 ≤ b → b < w 33 43 - 1 → (Q a b → w0 51 (30 * b + a) = w 33 44) ∧ (¬ Q a b → w0 51 (30 * b + a) = w 51 (30 * b + a))) ∧
  (∀ m, 0 ≤ m → m < met → ∃ a b, w0 52 m = 30 * b + a ∧ Q a b) ∧ (∀ a b, Q a b → ∃ m, 0 ≤ m ∧ m < met ∧ w0 52 m = 30 * b + a) ∧ ctF (w 33 42 - 1) (w 33 43 - 1) Q = met
def FH (w : eW) : Prop := (0 ≤ w 33 42 ∧ w 33 42 ≤ 30) ∧ (0 ≤ w 33 43 ∧ w 33 43 ≤ 30) ∧ (0 ≤ w 33 44 ∧ w 33 44 ≤ 1000) ∧ ∀ a b, 0 ≤ a → a < w 33 42 - 1 → 0 ≤ b → b < w 33 43 - 1 → -2 ≤ w 51 (30 * b + a) ∧ w 51 (30 * b + a) ≤ 1000
theorem BQ_met {w : eW} (hH : FH w) {x0 y0 : Int} (h0 : unl w x0 y0) {w0 : eW} {met : Int} {Q : eP} (h : BQ w x0 y0 w0 met Q) : 0 ≤ met ∧ met ≤ ctF (w 33 42 - 1) (w 33 43 - 1) (unl w) ∧ met ≤ 841 := by
  obtain ⟨f, h1, h2, h3, h4, h5⟩ := h
  have hx := h0.2.1
  have hy := h0.2.2.2.1
  have b0 := h0.1
  have b1 := h0.2.2.1
  have l0 := ctF_b (W := w 33 42 - 1) (H := w 33 43 - 1) (by omega) (by omega) Q
  have l1 : ctF (w 33 42 - 1) (w 33 43 - 1) Q ≤ ctF (w 33 42 - 1) (w 33 43 - 1) (unl w) := sumI_le (fun i _ _ => sumI_le (fun j _ _ => bI_le (fun q => cn_in h0 (h1 j i q))))
  have l2 : (w 33 43 - 1) * (w 33 42 - 1) ≤ 29 * 29 := Int.mul_le_mul (by have := hH.2.1; omega) (by have := hH.1; omega) (by omega) (by omega)
  omega
theorem BQ_new {w : eW} (hH : FH w) {x0 y0 : Int} (h0 : unl w x0 y0) {w0 : eW} {met : Int} {Q : eP} (h : BQ w x0 y0 w0 met Q) {a b c d : Int} (hq : Q a b) (ha : adj a b c d) (hr : 0 ≤ c ∧ c ≤ w0 33 42 - 2) (hr2 : 0 ≤ d ∧ d ≤ w0 33 43 - 2) (hl : w0 51 (30 * d + c) = -2) : BQ w x0 y0 (eU (eU w0 51 (30 * d + c) (w0 33 44)) 52 met (30 * d + c)) (met + 1) (fun a b => Q a b ∨ (a = c ∧ b = d)) ∧ unl w c d := by
  have hm := BQ_met hH h0 h
  obtain ⟨f, h1, h2, h3, h4, h5⟩ := h
  have e33 : w0 33 = w 33 := f 33 (by decide)
  rw [e33] at hr hr2
  have hn : ¬ Q c d := fun z => by
    have := (h2 c d hr.1 (by omega) hr2.1 (by omega)).1 z
    have := hH.2.2.1
    omega
  have hu : unl w c d := ⟨hr.1, by omega, hr2.1, by omega, by rw [← (h2 c d hr.1 (by omega) hr2.1 (by omega)).2 hn]; exact hl⟩
  refine ⟨⟨(f.put (by decide)).put (by decide), fun a b q => ?_, fun a b a1 a2 a3 a4 => ⟨fun q => ?_, fun q => ?_⟩, fun m m1 m2 => ?_, fun a b q => ?_, ?_⟩, hu⟩
  · rcases q with q | q
    · exact h1 a b q
    · rw [q.1, q.2]; exact cn_st (h1 _ _ hq) hu ha
  · rw [eU_ne (by decide), eU_get, e33]
    by_cases he : 30 * b + a = 30 * d + c
    · rw [if_pos he]
    · rw [if_neg he]
      rcases q with q | q
      · exact (h2 a b a1 a2 a3 a4).1 q
      · exact absurd (by rw [q.1, q.2]) he
  · rw [eU_ne (by decide), eU_get]
    by_cases he : 30 * b + a = 30 * d + c
    · have := hH.1
      have : a = c ∧ b = d := by omega
      exact absurd (Or.inr this) q
    · rw [if_neg he]
      exact (h2 a b a1 a2 a3 a4).2 (fun z => q (Or.inl z))
  · rw [eU_get]
    by_cases hc : m = met
    · rw [if_pos hc]
      exact ⟨c, d, rfl, Or.inr ⟨rfl, rfl⟩⟩
    · rw [if_neg hc, eU_ne (by decide)]
      obtain ⟨a, b, q1, q2⟩ := h3 m m1 (by omega)
      exact ⟨a, b, q1, Or.inl q2⟩
  · rcases q with q | q
    · obtain ⟨m, m1, m2, m3⟩ := h4 a b q
      refine ⟨m, m1, by omega, ?_⟩
      rw [eU_get, if_neg (by omega), eU_ne (by decide)]
      exact m3
    · refine ⟨met, by omega, by omega, ?_⟩
      rw [eU_get, if_pos rfl, q.1, q.2]
  · rw [ctF_add1 ⟨hr.1, by omega, hr2.1, by omega⟩ hn, h5]
theorem y_fill0 {w : eW} (hH : FH w) {x0 y0 : Int} (h0 : unl w x0 y0) {w0 : eW} {met k : Int} {Q : eP} (h : BQ w x0 y0 w0 met Q) (hk : 0 ≤ k ∧ k < met) {a b : Int} (hq : Q a b) (he : w0 52 k = 30 * b + a) : ∃ w1 met1 Q1, BQ w x0 y0 w1 met1 Q1 ∧ (∀ a b, Q a b → Q1 a b) ∧ (unl w a (b - 1) → Q1 a (b - 1)) ∧ met ≤ met1 ∧ (∀ m, m < met → w1 52 m = w0 52 m) ∧ ∀ (r : Option eV) (w9 : eW), Go mX8_fills 29 [(0, eR 33), (2, (0, met1)), (3, (0, k)), (4, (0, 0 + 1))] [] w1 r w9 → Go mX8_fills 29 [(0, eR 33), (2, (0, met)), (3, (0, k)), (4, (0, 0))] [] w0 r w9 := by
  have hm := BQ_met hH h0 h
  obtain ⟨f, h1, h2, h3, h4, h5⟩ := id h
  obtain ⟨g1, g2, g3, g4⟩ := id hH
  have e33 : w0 33 = w 33 := f 33 (by decide)
  obtain ⟨r1, r2, r3, r4, r5⟩ := cn_in h0 (h1 a b hq)
  have ea : w0 52 k % 30 = a := by omega
  have eb : w0 52 k / 30 = b := by omega
  have hl : 0 ≤ a → a ≤ w 33 42 - 2 → 0 ≤ (b - 1) → (b - 1) ≤ w 33 43 - 2 → eI (w0 51 (30 * (b - 1) + a)) := fun z1 z2 z3 z4 => by
    have q := h2 a (b - 1) z1 (by omega) z3 (by omega)
    have q4 := g4 a (b - 1) z1 (by omega) z3 (by omega)
    by_cases hqq : Q a (b - 1)
    · have := q.1 hqq; omega
    · have := q.2 hqq; omega
  have row := fun (r : Option eV) (w9 : eW) => tX8_fills0_29 (r := r) (w9 := w9) w0 met k (by omega) (by omega) (by omega) (by rw [e33]; exact g1) (by rw [e33]; exact g2)
  simp only [ea, eb] at row
  by_cases hc : (0 ≤ a ∧ a ≤ w0 33 42 - 2) ∧ (0 ≤ (b - 1) ∧ (b - 1) ≤ w0 33 43 - 2) ∧ w0 51 (30 * (b - 1) + a) = -2
  · obtain ⟨n1, n2⟩ := BQ_new hH h0 h hq (c := a) (d := (b - 1)) (by unfold adj; omega) hc.1 hc.2.1 hc.2.2
    refine ⟨_, met + 1, _, n1, fun _ _ q => Or.inl q, fun _ => Or.inr ⟨rfl, rfl⟩, by omega, fun m hm => ?_, fun r w9 hgo => ?_⟩
    · rw [eU_get, if_neg (by omega), eU_ne (by decide)]
    · refine row r w9 (fun z1 z2 => by rw [e33] at z1 z2; exact hl z1.1 z1.2 z2.1 z2.2) ?_ ?_ ?_ ?_
      · intro _ _ _; exact hgo
      · intro _ _ z; exact absurd hc.2.2 z
      · intro _ z; exact absurd hc.2.1 z
      · intro z; exact absurd hc.1 z
  · refine ⟨w0, met, Q, h, fun _ _ q => q, fun hu => ?_, by omega, fun _ _ => rfl, fun r w9 hgo => ?_⟩
    · refine Classical.byContradiction fun hn => hc ?_
      obtain ⟨u1, u2, u3, u4, u5⟩ := hu
      rw [e33]
      exact ⟨⟨u1, by omega⟩, ⟨u3, by omega⟩, by rw [(h2 _ _ u1 u2 u3 u4).2 hn]; exact u5⟩
    · refine row r w9 (fun z1 z2 => by rw [e33] at z1 z2; exact hl z1.1 z1.2 z2.1 z2.2) ?_ ?_ ?_ ?_
      · intro z1 z2 z3; exact absurd ⟨z1, z2, z3⟩ hc
      · intro _ _ _; exact hgo
      · intro _ _; exact hgo
      · intro _; exact hgo
theorem y_fill1 {w : eW} (hH : FH w) {x0 y0 : Int} (h0 : unl w x0 y0) {w0 : eW} {met k : Int} {Q : eP} (h : BQ w x0 y0 w0 met Q) (hk : 0 ≤ k ∧ k < met) {a b : Int} (hq : Q a b) (he : w0 52 k = 30 * b + a) : ∃ w1 met1 Q1, BQ w x0 y0 w1 met1 Q1 ∧ (∀ a b, Q a b → Q1 a b) ∧ (unl w (a + 1) b → Q1 (a + 1) b) ∧ met ≤ met1 ∧ (∀ m, m < met → w1 52 m = w0 52 m) ∧ ∀ (r : Option eV) (w9 : eW), Go mX8_fills 29 [(0, eR 33), (2, (0, met1)), (3, (0, k)), (4, (0, 1 + 1))] [] w1 r w9 → Go mX8_fills 29 [(0, eR 33), (2, (0, met)), (3, (0, k)), (4, (0, 1))] [] w0 r w9 := by
  have hm := BQ_met hH h0 h
  obtain ⟨f, h1, h2, h3, h4, h5⟩ := id h
  obtain ⟨g1, g2, g3, g4⟩ := id hH
  have e33 : w0 33 = w 33 := f 33 (by decide)
  obtain ⟨r1, r2, r3, r4, r5⟩ := cn_in h0 (h1 a b hq)
  have ea : w0 52 k % 30 = a := by omega
  have eb : w0 52 k / 30 = b := by omega
  have hl : 0 ≤ (a + 1) → (a + 1) ≤ w 33 42 - 2 → 0 ≤ b → b ≤ w 33 43 - 2 → eI (w0 51 (30 * b + (a + 1))) := fun z1 z2 z3 z4 => by
    have q := h2 (a + 1) b z1 (by omega) z3 (by omega)
    have q4 := g4 (a + 1) b z1 (by omega) z3 (by omega)
    by_cases hqq : Q (a + 1) b
    · have := q.1 hqq; omega
    · have := q.2 hqq; omega
  have row := fun (r : Option eV) (w9 : eW) => tX8_fills1_29 (r := r) (w9 := w9) w0 met k (by omega) (by omega) (by omega) (by rw [e33]; exact g1) (by rw [e33]; exact g2)
  simp only [ea, eb] at row
  by_cases hc : (0 ≤ (a + 1) ∧ (a + 1) ≤ w0 33 42 - 2) ∧ (0 ≤ b ∧ b ≤ w0 33 43 - 2) ∧ w0 51 (30 * b + (a + 1)) = -2
  · obtain ⟨n1, n2⟩ := BQ_new hH h0 h hq (c := (a + 1)) (d := b) (by unfold adj; omega) hc.1 hc.2.1 hc.2.2
    refine ⟨_, met + 1, _, n1, fun _ _ q => Or.inl q, fun _ => Or.inr ⟨rfl, rfl⟩, by omega, fun m hm => ?_, fun r w9 hgo => ?_⟩
    · rw [eU_get, if_neg (by omega), eU_ne (by decide)]
    · refine row r w9 (fun z1 z2 => by rw [e33] at z1 z2; exact hl z1.1 z1.2 z2.1 z2.2) ?_ ?_ ?_ ?_
      · intro _ _ _; exact hgo
      · intro _ _ z; exact absurd hc.2.2 z
      · intro _ z; exact absurd hc.2.1 z
      · intro z; exact absurd hc.1 z
  · refine ⟨w0, met, Q, h, fun _ _ q => q, fun hu => ?_, by omega, fun _ _ => rfl, fun r w9 hgo => ?_⟩
    · refine Classical.byContradiction fun hn => hc ?_
      obtain ⟨u1, u2, u3, u4, u5⟩ := hu
      rw [e33]
      exact ⟨⟨u1, by omega⟩, ⟨u3, by omega⟩, by rw [(h2 _ _ u1 u2 u3 u4).2 hn]; exact u5⟩
    · refine row r w9 (fun z1 z2 => by rw [e33] at z1 z2; exact hl z1.1 z1.2 z2.1 z2.2) ?_ ?_ ?_ ?_
      · intro z1 z2 z3; exact absurd ⟨z1, z2, z3⟩ hc
      · intro _ _ _; exact hgo
      · intro _ _; exact hgo
      · intro _; exact hgo
theorem y_fill2 {w : eW} (hH : FH w) {x0 y0 : Int} (h0 : unl w x0 y0) {w0 : eW} {met k : Int} {Q : eP} (h : BQ w x0 y0 w0 met Q) (hk : 0 ≤ k ∧ k < met) {a b : Int} (hq : Q a b) (he : w0 52 k = 30 * b + a) : ∃ w1 met1 Q1, BQ w x0 y0 w1 met1 Q1 ∧ (∀ a b, Q a b → Q1 a b) ∧ (unl w a (b + 1) → Q1 a (b + 1)) ∧ met ≤ met1 ∧ (∀ m, m < met → w1 52 m = w0 52 m) ∧ ∀ (r : Option eV) (w9 : eW), Go mX8_fills 29 [(0, eR 33), (2, (0, met1)), (3, (0, k)), (4, (0, 2 + 1))] [] w1 r w9 → Go mX8_fills 29 [(0, eR 33), (2, (0, met)), (3, (0, k)), (4, (0, 2))] [] w0 r w9 := by
  have hm := BQ_met hH h0 h
  obtain ⟨f, h1, h2, h3, h4, h5⟩ := id h
  obtain ⟨g1, g2, g3, g4⟩ := id hH
  have e33 : w0 33 = w 33 := f 33 (by decide)
  obtain ⟨r1, r2, r3, r4, r5⟩ := cn_in h0 (h1 a b hq)
  have ea : w0 52 k % 30 = a := by omega
  have eb : w0 52 k / 30 = b := by omega
  have hl : 0 ≤ a → a ≤ w 33 42 - 2 → 0 ≤ (b + 1) → (b + 1) ≤ w 33 43 - 2 → eI (w0 51 (30 * (b + 1) + a)) := fun z1 z2 z3 z4 => by
    have q := h2 a (b + 1) z1 (by omega) z3 (by omega)
    have q4 := g4 a (b + 1) z1 (by omega) z3 (by omega)
    by_cases hqq : Q a (b + 1)
    · have := q.1 hqq; omega
    · have := q.2 hqq; omega
  have row := fun (r : Option eV) (w9 : eW) => tX8_fills2_29 (r := r) (w9 := w9) w0 met k (by omega) (by omega) (by omega) (by rw [e33]; exact g1) (by rw [e33]; exact g2)
  simp only [ea, eb] at row
  by_cases hc : (0 ≤ a ∧ a ≤ w0 33 42 - 2) ∧ (0 ≤ (b + 1) ∧ (b + 1) ≤ w0 33 43 - 2) ∧ w0 51 (30 * (b + 1) + a) = -2
  · obtain ⟨n1, n2⟩ := BQ_new hH h0 h hq (c := a) (d := (b + 1)) (by unfold adj; omega) hc.1 hc.2.1 hc.2.2
    refine ⟨_, met + 1, _, n1, fun _ _ q => Or.inl q, fun _ => Or.inr ⟨rfl, rfl⟩, by omega, fun m hm => ?_, fun r w9 hgo => ?_⟩
    · rw [eU_get, if_neg (by omega), eU_ne (by decide)]
    · refine row r w9 (fun z1 z2 => by rw [e33] at z1 z2; exact hl z1.1 z1.2 z2.1 z2.2) ?_ ?_ ?_ ?_
      · intro _ _ _; exact hgo
      · intro _ _ z; exact absurd hc.2.2 z
      · intro _ z; exact absurd hc.2.1 z
      · intro z; exact absurd hc.1 z
  · refine ⟨w0, met, Q, h, fun _ _ q => q, fun hu => ?_, by omega, fun _ _ => rfl, fun r w9 hgo => ?_⟩
    · refine Classical.byContradiction fun hn => hc ?_
      obtain ⟨u1, u2, u3, u4, u5⟩ := hu
      rw [e33]
      exact ⟨⟨u1, by omega⟩, ⟨u3, by omega⟩, by rw [(h2 _ _ u1 u2 u3 u4).2 hn]; exact u5⟩
    · refine row r w9 (fun z1 z2 => by rw [e33] at z1 z2; exact hl z1.1 z1.2 z2.1 z2.2) ?_ ?_ ?_ ?_
      · intro z1 z2 z3; exact absurd ⟨z1, z2, z3⟩ hc
      · intro _ _ _; exact hgo
      · intro _ _; exact hgo
      · intro _; exact hgo
theorem y_fill3 {w : eW} (hH : FH w) {x0 y0 : Int} (h0 : unl w x0 y0) {w0 : eW} {met k : Int} {Q : eP} (h : BQ w x0 y0 w0 met Q) (hk : 0 ≤ k ∧ k < met) {a b : Int} (hq : Q a b) (he : w0 52 k = 30 * b + a) : ∃ w1 met1 Q1, BQ w x0 y0 w1 met1 Q1 ∧ (∀ a b, Q a b → Q1 a b) ∧ (unl w (a - 1) b → Q1 (a - 1) b) ∧ met ≤ met1 ∧ (∀ m, m < met → w1 52 m = w0 52 m) ∧ ∀ (r : Option eV) (w9 : eW), Go mX8_fills 29 [(0, eR 33), (2, (0, met1)), (3, (0, k)), (4, (0, 3 + 1))] [] w1 r w9 → Go mX8_fills 29 [(0, eR 33), (2, (0, met)), (3, (0, k)), (4, (0, 3))] [] w0 r w9 := by
  have hm := BQ_met hH h0 h
  obtain ⟨f, h1, h2, h3, h4, h5⟩ := id h
  obtain ⟨g1, g2, g3, g4⟩ := id hH
  have e33 : w0 33 = w 33 := f 33 (by decide)
  obtain ⟨r1, r2, r3, r4, r5⟩ := cn_in h0 (h1 a b hq)
  have ea : w0 52 k % 30 = a := by omega
  have eb : w0 52 k / 30 = b := by omega
  have hl : 0 ≤ (a - 1) → (a - 1) ≤ w 33 42 - 2 → 0 ≤ b → b ≤ w 33 43 - 2 → eI (w0 51 (30 * b + (a - 1))) := fun z1 z2 z3 z4 => by
    have q := h2 (a - 1) b z1 (by omega) z3 (by omega)
    have q4 := g4 (a - 1) b z1 (by omega) z3 (by omega)
    by_cases hqq : Q (a - 1) b
    · have := q.1 hqq; omega
    · have := q.2 hqq; omega
  have row := fun (r : Option eV) (w9 : eW) => tX8_fills3_29 (r := r) (w9 := w9) w0 met k (by omega) (by omega) (by omega) (by rw [e33]; exact g1) (by rw [e33]; exact g2)
  simp only [ea, eb] at row
  by_cases hc : (0 ≤ (a - 1) ∧ (a - 1) ≤ w0 33 42 - 2) ∧ (0 ≤ b ∧ b ≤ w0 33 43 - 2) ∧ w0 51 (30 * b + (a - 1)) = -2
  · obtain ⟨n1, n2⟩ := BQ_new hH h0 h hq (c := (a - 1)) (d := b) (by unfold adj; omega) hc.1 hc.2.1 hc.2.2
    refine ⟨_, met + 1, _, n1, fun _ _ q => Or.inl q, fun _ => Or.inr ⟨rfl, rfl⟩, by omega, fun m hm => ?_, fun r w9 hgo => ?_⟩
    · rw [eU_get, if_neg (by omega), eU_ne (by decide)]
    · refine row r w9 (fun z1 z2 => by rw [e33] at z1 z2; exact hl z1.1 z1.2 z2.1 z2.2) ?_ ?_ ?_ ?_
      · intro _ _ _; exact hgo
      · intro _ _ z; exact absurd hc.2.2 z
      · intro _ z; exact absurd hc.2.1 z
      · intro z; exact absurd hc.1 z
  · refine ⟨w0, met, Q, h, fun _ _ q => q, fun hu => ?_, by omega, fun _ _ => rfl, fun r w9 hgo => ?_⟩
    · refine Classical.byContradiction fun hn => hc ?_
      obtain ⟨u1, u2, u3, u4, u5⟩ := hu
      rw [e33]
      exact ⟨⟨u1, by omega⟩, ⟨u3, by omega⟩, by rw [(h2 _ _ u1 u2 u3 u4).2 hn]; exact u5⟩
    · refine row r w9 (fun z1 z2 => by rw [e33] at z1 z2; exact hl z1.1 z1.2 z2.1 z2.2) ?_ ?_ ?_ ?_
      · intro z1 z2 z3; exact absurd ⟨z1, z2, z3⟩ hc
      · intro _ _ _; exact hgo
      · intro _ _; exact hgo
      · intro _; exact hgo
theorem y_fillsL {w : eW} (hH : FH w) {x0 y0 : Int} (h0 : unl w x0 y0) : ∀ (n : Nat) (w0 : eW) (met k : Int) (Q : eP), BQ w x0 y0 w0 met Q → Q x0 y0 → 0 ≤ k → k ≤ met → (∀ m a b, 0 ≤ m → m < k → Q a b → w0 52 m = 30 * b + a → ∀ c d, unl w c d → adj a b c d → Q c d) → ctF (w 33 42 - 1) (w 33 43 - 1) (unl w) - k ≤ n → ∃ w1 met1, Go mX8_fills 21 [(0, eR 33), (2, (0, met)), (3, (0, k))] [] w0 none w1 ∧ BQ w x0 y0 w1 met1 (cn (unl w) x0 y0) := by
  have fin : ∀ (w0 : eW) (met k : Int) (Q : eP), BQ w x0 y0 w0 met Q → Q x0 y0 → 0 ≤ k → k = met → (∀ m a b, 0 ≤ m → m < k → Q a b → w0 52 m = 30 * b + a → ∀ c d, unl w c d → adj a b c d → Q c d) → ∃ w1 met1, Go mX8_fills 21 [(0, eR 33), (2, (0, met)), (3, (0, k))] [] w0 none w1 ∧ BQ w x0 y0 w1 met1 (cn (unl w) x0 y0) := by
    intro w0 met k Q h hq hk1 hk2 hd
    have hm := BQ_met hH h0 h
    have e : Q = cn (unl w) x0 y0 := by
      funext a b
      refine propext ⟨h.2.1 a b, fun z => z Q hq (fun a b c d q1 q2 q3 => ?_)⟩
      obtain ⟨m, m1, m2, m3⟩ := h.2.2.2.2.1 a b q1
      exact hd m a b m1 (by omega) q1 m3 c d q2 q3
    rw [e] at h
    refine ⟨w0, met, ?_, h⟩
    apply tX8_fills_21 w0 met k (by omega) (by omega)
    · intro z; omega
    · intro _; exact ⟨rfl, rfl⟩
  intro n
  induction n with
  | zero =>
    intro w0 met k Q h hq hk1 hk2 hd hn
    have hm := BQ_met hH h0 h
    exact fin w0 met k Q h hq hk1 (by omega) hd
  | succ n ih =>
    intro w0 met k Q h hq hk1 hk2 hd hn
    have hm := BQ_met hH h0 h
    by_cases hk : k = met
    · exact fin w0 met k Q h hq hk1 hk hd
    · obtain ⟨a, b, q1, q2⟩ := h.2.2.2.1 k hk1 (by omega)
      obtain ⟨w1, m1, Q1, a1, a2, a3, a4, a5, a6⟩ := y_fill0 hH h0 h ⟨hk1, by omega⟩ q2 q1
      obtain ⟨w2, m2, Q2, b1, b2, b3, b4, b5, b6⟩ := y_fill1 hH h0 a1 (k := k) ⟨hk1, by omega⟩ (a2 _ _ q2) (by rw [a5 k (by omega)]; exact q1)
      have e2 : ∀ m, m < met → w2 52 m = w0 52 m := fun m z => by rw [b5 m (by omega), a5 m z]
      obtain ⟨w3, m3, Q3, c1, c2, c3, c4, c5, c6⟩ := y_fill2 hH h0 b1 (k := k) ⟨hk1, by omega⟩ (b2 _ _ (a2 _ _ q2)) (by rw [e2 k (by omega)]; exact q1)
      have e3 : ∀ m, m < met → w3 52 m = w0 52 m := fun m z => by rw [c5 m (by omega), e2 m z]
      obtain ⟨w4, m4, Q4, d1, d2, d3, d4, d5, d6⟩ := y_fill3 hH h0 c1 (k := k) ⟨hk1, by omega⟩ (c2 _ _ (b2 _ _ (a2 _ _ q2))) (by rw [e3 k (by omega)]; exact q1)
      have e4 : ∀ m, m < met → w4 52 m = w0 52 m := fun m z => by rw [d5 m (by omega), e3 m z]
      have sub : ∀ a b, Q a b → Q4 a b := fun a b z => d2 _ _ (c2 _ _ (b2 _ _ (a2 _ _ z)))
      obtain ⟨w5, met5, g1, g2⟩ := ih w4 m4 (k + 1) Q4 d1 (sub _ _ hq) (by omega) (by omega) (fun m a' b' z1 z2 z3 z4 c d z5 z6 => by
        rw [e4 m (by omega)] at z4
        by_cases hmk : m = k
        · rw [hmk, q1] at z4
          have r1 := cn_in h0 (d1.2.1 a' b' z3)
          have r2 := cn_in h0 (h.2.1 a b q2)
          have s1 := r1.1; have s2 := r1.2.1; have s3 := r2.1; have s4 := r2.2.1
          have gg := hH.1
          have ea : a' = a := by omega
          have eb : b' = b := by omega
          subst ea; subst eb
          rcases z6 with ⟨rfl, rfl | rfl⟩ | ⟨rfl, rfl | rfl⟩
          · exact d2 _ _ (c3 z5)
          · exact d2 _ _ (c2 _ _ (b2 _ _ (a3 z5)))
          · exact d2 _ _ (c2 _ _ (b3 z5))
          · exact d3 z5
        · obtain ⟨a2', b2', p1, p2⟩ := h.2.2.2.1 m z1 (by omega)
          have r1 := cn_in h0 (d1.2.1 a' b' z3)
          have r2 := cn_in h0 (h.2.1 a2' b2' p2)
          have s1 := r1.1; have s2 := r1.2.1; have s3 := r2.1; have s4 := r2.2.1
          have gg := hH.1
          have ea : a' = a2' := by omega
          have eb : b' = b2' := by omega
          subst ea; subst eb
          exact sub _ _ (hd m a' b' z1 (by omega) p2 z4 c d z5 z6)) (by omega)
      refine ⟨w5, met5, ?_, g2⟩
      apply tX8_fills_21 w0 met k (by omega) (by omega)
      · intro _
        exact a6 _ _ (b6 _ _ (c6 _ _ (d6 _ _ (tX8_fills4_29 w4 m4 k g1))))
      · intro z; omega
theorem y_X8_fills (w : eW) (hH : FH w) {x0 y0 : Int} (h0 : unl w x0 y0) : ∃ w1, Cal mX8_fills [eR 33, (0, 30 * y0 + x0)] w none w1 ∧ Fr [51, 52] w w1 ∧ ∀ a b, 0 ≤ a → a < w 33 42 - 1 → 0 ≤ b → b < w 33 43 - 1 → (cn (unl w) x0 y0 a b → w1 51 (30 * b + a) = w 33 44) ∧ (¬ cn (unl w) x0 y0 a b → w1 51 (30 * b + a) = w 51 (30 * b + a)) := by
  obtain ⟨u1, u2, u3, u4, u5⟩ := id h0
  obtain ⟨g1, g2, g3, g4⟩ := id hH
  have hi : BQ w x0 y0 (eU (eU w 52 0 (30 * y0 + x0)) 51 (30 * y0 + x0) (w 33 44)) 1 (fun a b => False ∨ (a = x0 ∧ b = y0)) := by
    refine ⟨(Fr.rf.put (by decide)).put (by decide), fun a b q => ?_, fun a b a1 a2 a3 a4 => ⟨fun q => ?_, fun q => ?_⟩, fun m m1 m2 => ?_, fun a b q => ?_, ?_⟩
    · rcases q with q | q
      · exact q.elim
      · rw [q.1, q.2]; exact cn_rf
    · rcases q with q | q
      · exact q.elim
      · rw [eU_get, q.1, q.2, if_pos rfl]
    · rw [eU_get, if_neg (fun z => q (Or.inr (by omega))), eU_ne (by decide)]
    · refine ⟨x0, y0, ?_, Or.inr ⟨rfl, rfl⟩⟩
      rw [eU_ne (by decide), eU_get, if_pos (by omega)]
    · rcases q with q | q
      · exact q.elim
      · refine ⟨0, by omega, by omega, ?_⟩
        rw [eU_ne (by decide), eU_get, if_pos rfl, q.1, q.2]
    · rw [ctF_add1 ⟨u1, u2, u3, u4⟩ (fun z => z), ctF_none]; rfl
  obtain ⟨w1, met1, k1, k2⟩ := y_fillsL hH h0 (ctF (w 33 42 - 1) (w 33 43 - 1) (unl w)).toNat _ 1 0 _ hi (Or.inr ⟨rfl, rfl⟩) (by omega) (by omega) (fun m a b z1 z2 => by omega) (by omega)
  exact ⟨w1, Cal.of (by decide +kernel) (Nat.le_of_ble_eq_true rfl) (tX8_fills_0 w _ (by omega) k1), k2.1, k2.2.2.1⟩
