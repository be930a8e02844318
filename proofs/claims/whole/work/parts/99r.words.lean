/-! what a token is: words, numbers, signs -/
theorem TOK.b {T : Int → Int} {n p s e k : Int} (h : TOK T n p s e k) (hn : n ≤ 400) : 0 ≤ p ∧ p ≤ s ∧ s ≤ e ∧ e ≤ n ∧ (-1 ≤ k ∧ k ≤ 59) ∧ (¬ k = 0 → s < e) := by
  obtain ⟨h0, h1, h2, h3, h4⟩ := h
  rcases h4 with ⟨c1, c2, c3⟩ | ⟨c1, c2, c3, ⟨d1, d2, d3, d4⟩ | ⟨d1, d2, d3, d4⟩ | ⟨d1, d2, d3, d4⟩⟩
  · exact ⟨h0, h1, by omega, by omega, by omega, fun z => absurd c3 z⟩
  · refine ⟨h0, h1, by omega, by omega, ?_, fun _ => c1⟩
    rw [d4]; split <;> omega
  · refine ⟨h0, h1, by omega, by omega, ?_, fun _ => c1⟩
    rw [d4]; split <;> omega
  · refine ⟨h0, h1, by omega, by omega, ?_, fun _ => c1⟩
    rw [d4]; split <;> omega
theorem TOK.word {T : Int → Int} {n p s e : Int} (h : TOK T n p s e 1) : s < e ∧ e ≤ s + 14 ∧ ∀ i, s ≤ i → i < e → ltr (T i) := by
  obtain ⟨h0, h1, h2, h3, h4⟩ := h
  rcases h4 with ⟨c1, c2, c3⟩ | ⟨c1, c2, c3, ⟨d1, d2, d3, d4⟩ | ⟨d1, d2, d3, d4⟩ | ⟨d1, d2, d3, d4⟩⟩
  · exact absurd c3 (by decide)
  · by_cases z : 14 < e - s
    · rw [if_pos z] at d4; exact absurd d4 (by decide)
    · exact ⟨c1, by omega, d2⟩
  · exfalso; by_cases z : 4 < e - s
    · rw [if_pos z] at d4; exact absurd d4 (by decide)
    · rw [if_neg z] at d4; exact absurd d4 (by decide)
  · exfalso; by_cases z : T s = 59 ∨ T s = 44 ∨ T s = 47
    · rw [if_pos z] at d4; omega
    · rw [if_neg z] at d4; exact absurd d4 (by decide)
theorem TOK.whole {T : Int → Int} {n p s e : Int} (h : TOK T n p s e 2) : s < e ∧ e ≤ s + 4 ∧ ∀ i, s ≤ i → i < e → dgt (T i) := by
  obtain ⟨h0, h1, h2, h3, h4⟩ := h
  rcases h4 with ⟨c1, c2, c3⟩ | ⟨c1, c2, c3, ⟨d1, d2, d3, d4⟩ | ⟨d1, d2, d3, d4⟩ | ⟨d1, d2, d3, d4⟩⟩
  · exact absurd c3 (by decide)
  · exfalso; by_cases z : 14 < e - s
    · rw [if_pos z] at d4; exact absurd d4 (by decide)
    · rw [if_neg z] at d4; exact absurd d4 (by decide)
  · by_cases z : 4 < e - s
    · rw [if_pos z] at d4; exact absurd d4 (by decide)
    · exact ⟨c1, by omega, d2⟩
  · exfalso; by_cases z : T s = 59 ∨ T s = 44 ∨ T s = 47
    · rw [if_pos z] at d4; omega
    · rw [if_neg z] at d4; exact absurd d4 (by decide)
theorem wdv_b {T : Int → Int} {s : Int} : ∀ j : Nat, (∀ i : Nat, i < j → ltr (T (s + i))) → 0 ≤ wdv T s j ∧ (j ≤ 10 → wdv T s j < 32 ^ j) ∧ wdv T s j < 1125899906842624 := by
  intro j
  induction j with
  | zero => intro _; rw [wdv]; exact ⟨by decide, fun _ => by decide, by decide⟩
  | succ j ih =>
    intro h
    obtain ⟨i1, i2, i3⟩ := ih (fun i hi => h i (by omega))
    have hl := h j (by omega)
    rw [wdv]
    by_cases c : j < 10
    · rw [if_pos c]
      have i4 := i2 (by omega)
      have e : (32 : Int) ^ (j + 1) = 32 * 32 ^ j := by rw [Int.pow_succ, Int.mul_comm]
      have e2 : (32 : Int) ^ (j + 1) ≤ 32 ^ 10 := by
        have h1 : (32 : Nat) ^ (j + 1) ≤ 32 ^ 10 := Nat.pow_le_pow_right (by decide) (by omega)
        have h2 : ((32 ^ (j + 1) : Nat) : Int) ≤ ((32 ^ 10 : Nat) : Int) := Int.ofNat_le.mpr h1
        rw [Int.natCast_pow, Int.natCast_pow] at h2
        exact h2
      have e3 : (32 : Int) ^ 10 = 1125899906842624 := by decide
      rw [e] at e2 ⊢
      generalize (32 : Int) ^ j = P at *
      unfold ltr at hl
      omega
    · rw [if_neg c]
      exact ⟨i1, fun z => absurd z (by omega), i3⟩
theorem nmv_b {T : Int → Int} {s : Int} : ∀ j : Nat, j ≤ 4 → (∀ i : Nat, i < j → dgt (T (s + i))) → 0 ≤ nmv T s j ∧ nmv T s j < 10 ^ j := by
  intro j
  induction j with
  | zero => intro _ _; rw [nmv]; exact ⟨by decide, by decide⟩
  | succ j ih =>
    intro hj h
    obtain ⟨i1, i2⟩ := ih (by omega) (fun i hi => h i (by omega))
    have hl := h j (by omega)
    rw [nmv, if_pos (by omega)]
    have e : (10 : Int) ^ (j + 1) = 10 * 10 ^ j := by rw [Int.pow_succ, Int.mul_comm]
    rw [e]
    generalize (10 : Int) ^ j = P at *
    unfold dgt at hl
    omega
theorem nmv_w {T : Int → Int} {n p s e : Int} (h : TOK T n p s e 2) : 0 ≤ nmv T s (e - s).toNat ∧ nmv T s (e - s).toNat ≤ 9999 := by
  obtain ⟨h1, h2, h3⟩ := h.whole
  have q := nmv_b (T := T) (s := s) (e - s).toNat (by omega) (fun i hi => h3 _ (by omega) (by omega))
  have h4 : (10 : Int) ^ (e - s).toNat ≤ 10000 := by
    have h1 : (10 : Nat) ^ (e - s).toNat ≤ 10 ^ 4 := Nat.pow_le_pow_right (by decide) (by omega)
    have h2 : ((10 ^ (e - s).toNat : Nat) : Int) ≤ ((10 ^ 4 : Nat) : Int) := Int.ofNat_le.mpr h1
    rw [Int.natCast_pow] at h2
    exact h2
  omega
theorem y_wholeValue {T : Int → Int} {n p s e : Int} {w : eW} (hT : TpC T n w) (h : TOK T n p s e 2) (h5 : w 8 5 = s) (h3 : w 8 3 = e) : Cal mX3_wholeValue [eR 8] w (some (0, nmv T s (e - s).toNat)) w := by
  obtain ⟨⟨n0, n4⟩, hn, -⟩ := id hT
  obtain ⟨c1, c2, c3⟩ := h.whole
  have hb := h.b n4
  refine Cal.of (by decide +kernel) (Nat.le_of_ble_eq_true rfl) (tX3_wholeValue_0 w ?_)
  rw [h5]
  have key := loop_up (P := fun q => Go mX3_wholeValue 7 [(0, eR 8), (1, (0, nmv T s (q - s).toNat)), (2, (0, q))] [] w (some (0, nmv T s (e - s).toNat)) w) s e ?_ ?_ s (by omega) (by omega)
  · rw [Int.sub_self] at key; exact key
  · apply tX3_wholeValue_7 w _ e (c := sgC w e) (by omega) (y_signAt w e (by omega) (by omega))
    · intro z; exfalso; omega
    · intro _; exact ⟨rfl, rfl⟩
  · intro q q1 q2 ih
    rw [show (q + 1 - s).toNat = (q - s).toNat + 1 by omega, nmv, if_pos (by omega), show s + ((q - s).toNat : Int) = q by omega] at ih
    apply tX3_wholeValue_7 w _ q (c := sgC w q) (by omega) (y_signAt w q (by omega) (by omega))
    · intro _
      rw [sg_in hT (by omega), show nmv T s (q - s).toNat * 10 + (T q - 48) = 10 * nmv T s (q - s).toNat + T q - 48 by omega]
      exact ih
    · intro z; exfalso; omega
/-- the token is this word -/
def IW (T : Int → Int) (s e k : Int) (L : List Int) : Prop := k = 1 ∧ e - s = (L.length : Int) ∧ ∀ j : Nat, j < L.length → T (s + j) = L.getD j 0

theorem y_isWord110 {T : Int → Int} {n p s e k : Int} {w : eW} (hT : TpC T n w) (h : TOK T n p s e k) (h5 : w 8 5 = s) (h3 : w 8 3 = e) (h4 : w 8 4 = k) : Cal mX3_isWord [eR 8, eR 110] w (some (0, bI (IW T s e k [104, 111, 117, 115, 101]))) w := by
  obtain ⟨⟨n0, n4⟩, hn, -⟩ := id hT
  have hb := h.b n4
  refine Cal.of (by decide +kernel) (Nat.le_of_ble_eq_true rfl) ?_
  apply tX3_isWord110_0 w (by omega) (by omega)
  · intro k1 k2
    have hle : e - s = 5 := by omega
    have key := loop_up (P := fun i => (∀ j : Nat, (j : Int) < i → T (s + j) = ([104, 111, 117, 115, 101] : List Int).getD j 0) → Go mX3_isWord 28 [(0, eR 8), (1, eR 110), (2, (0, i))] [] w (some (0, bI (IW T s e k [104, 111, 117, 115, 101]))) w) 0 5 ?_ ?_ 0 (by decide) (by decide) (fun j hj => by omega)
    · exact key
    · intro hj
      have hI : IW T s e k [104, 111, 117, 115, 101] := ⟨by omega, hle, fun j j1 => hj j (by have : j < 5 := j1; omega)⟩
      rw [bI_1 hI]
      apply tX3_isWord110_28 w 5 (v := sgC w (w 8 5 + 5)) (cv := 0) (by decide) (sgC_b _ _) (by decide) (y_signAt w _ (by omega) (by omega)) (fun z => absurd z (by decide)) <;> (intros; first | with_reducible exact ⟨rfl, rfl⟩ | contradiction | (exfalso; omega))
    · intro i i1 i2 ih hj
      have hc := (eSg_is 0 (by decide)).2.2 i.toNat (by have : (eSg (110 + 0)).length = 5 := rfl; omega)
      have g2 := y_charAt w 0 i (by decide) ⟨i1, by have : (eSg (110 + 0)).length = 5 := rfl; omega⟩
      apply tX3_isWord110_28 w i (v := sgC w (w 8 5 + i)) (cv := (eSg (110 + 0)).getD i.toNat 0) (by omega) (sgC_b _ _) hc.2 (y_signAt w _ (by omega) (by omega)) (fun _ => g2)
      · intro _ z
        rw [h5, sg_in hT (by omega)] at z
        refine ih (fun j j1 => ?_)
        by_cases d : (j : Int) = i
        · rw [d, z, show i.toNat = j by omega]; rfl
        · exact hj j (by omega)
      · intro _ z
        rw [h5, sg_in hT (by omega)] at z
        rw [bI_0 (fun q => z ?_)]
        · exact ⟨rfl, rfl⟩
        · have := q.2.2 i.toNat (by have : ([104, 111, 117, 115, 101] : List Int).length = 5 := rfl; omega)
          rw [Int.toNat_of_nonneg i1] at this
          exact this
      · intro z; exfalso; omega
  · intro _ z
    rw [bI_0 (fun q => z ?_)]
    · exact ⟨rfl, rfl⟩
    · have := q.2.1
      rw [show (([104, 111, 117, 115, 101] : List Int).length : Int) = 5 from rfl] at this
      omega
  · intro z
    rw [bI_0 (fun q => z ?_)]
    · exact ⟨rfl, rfl⟩
    · rw [h4]; exact q.1
theorem y_isWord111 {T : Int → Int} {n p s e k : Int} {w : eW} (hT : TpC T n w) (h : TOK T n p s e k) (h5 : w 8 5 = s) (h3 : w 8 3 = e) (h4 : w 8 4 = k) : Cal mX3_isWord [eR 8, eR 111] w (some (0, bI (IW T s e k [115, 112, 101, 101, 100]))) w := by
  obtain ⟨⟨n0, n4⟩, hn, -⟩ := id hT
  have hb := h.b n4
  refine Cal.of (by decide +kernel) (Nat.le_of_ble_eq_true rfl) ?_
  apply tX3_isWord111_0 w (by omega) (by omega)
  · intro k1 k2
    have hle : e - s = 5 := by omega
    have key := loop_up (P := fun i => (∀ j : Nat, (j : Int) < i → T (s + j) = ([115, 112, 101, 101, 100] : List Int).getD j 0) → Go mX3_isWord 28 [(0, eR 8), (1, eR 111), (2, (0, i))] [] w (some (0, bI (IW T s e k [115, 112, 101, 101, 100]))) w) 0 5 ?_ ?_ 0 (by decide) (by decide) (fun j hj => by omega)
    · exact key
    · intro hj
      have hI : IW T s e k [115, 112, 101, 101, 100] := ⟨by omega, hle, fun j j1 => hj j (by have : j < 5 := j1; omega)⟩
      rw [bI_1 hI]
      apply tX3_isWord111_28 w 5 (v := sgC w (w 8 5 + 5)) (cv := 0) (by decide) (sgC_b _ _) (by decide) (y_signAt w _ (by omega) (by omega)) (fun z => absurd z (by decide)) <;> (intros; first | with_reducible exact ⟨rfl, rfl⟩ | contradiction | (exfalso; omega))
    · intro i i1 i2 ih hj
      have hc := (eSg_is 1 (by decide)).2.2 i.toNat (by have : (eSg (110 + 1)).length = 5 := rfl; omega)
      have g2 := y_charAt w 1 i (by decide) ⟨i1, by have : (eSg (110 + 1)).length = 5 := rfl; omega⟩
      apply tX3_isWord111_28 w i (v := sgC w (w 8 5 + i)) (cv := (eSg (110 + 1)).getD i.toNat 0) (by omega) (sgC_b _ _) hc.2 (y_signAt w _ (by omega) (by omega)) (fun _ => g2)
      · intro _ z
        rw [h5, sg_in hT (by omega)] at z
        refine ih (fun j j1 => ?_)
        by_cases d : (j : Int) = i
        · rw [d, z, show i.toNat = j by omega]; rfl
        · exact hj j (by omega)
      · intro _ z
        rw [h5, sg_in hT (by omega)] at z
        rw [bI_0 (fun q => z ?_)]
        · exact ⟨rfl, rfl⟩
        · have := q.2.2 i.toNat (by have : ([115, 112, 101, 101, 100] : List Int).length = 5 := rfl; omega)
          rw [Int.toNat_of_nonneg i1] at this
          exact this
      · intro z; exfalso; omega
  · intro _ z
    rw [bI_0 (fun q => z ?_)]
    · exact ⟨rfl, rfl⟩
    · have := q.2.1
      rw [show (([115, 112, 101, 101, 100] : List Int).length : Int) = 5 from rfl] at this
      omega
  · intro z
    rw [bI_0 (fun q => z ?_)]
    · exact ⟨rfl, rfl⟩
    · rw [h4]; exact q.1
theorem y_isWord112 {T : Int → Int} {n p s e k : Int} {w : eW} (hT : TpC T n w) (h : TOK T n p s e k) (h5 : w 8 5 = s) (h3 : w 8 3 = e) (h4 : w 8 4 = k) : Cal mX3_isWord [eR 8, eR 112] w (some (0, bI (IW T s e k [109, 97, 114, 107]))) w := by
  obtain ⟨⟨n0, n4⟩, hn, -⟩ := id hT
  have hb := h.b n4
  refine Cal.of (by decide +kernel) (Nat.le_of_ble_eq_true rfl) ?_
  apply tX3_isWord112_0 w (by omega) (by omega)
  · intro k1 k2
    have hle : e - s = 4 := by omega
    have key := loop_up (P := fun i => (∀ j : Nat, (j : Int) < i → T (s + j) = ([109, 97, 114, 107] : List Int).getD j 0) → Go mX3_isWord 28 [(0, eR 8), (1, eR 112), (2, (0, i))] [] w (some (0, bI (IW T s e k [109, 97, 114, 107]))) w) 0 4 ?_ ?_ 0 (by decide) (by decide) (fun j hj => by omega)
    · exact key
    · intro hj
      have hI : IW T s e k [109, 97, 114, 107] := ⟨by omega, hle, fun j j1 => hj j (by have : j < 4 := j1; omega)⟩
      rw [bI_1 hI]
      apply tX3_isWord112_28 w 4 (v := sgC w (w 8 5 + 4)) (cv := 0) (by decide) (sgC_b _ _) (by decide) (y_signAt w _ (by omega) (by omega)) (fun z => absurd z (by decide)) <;> (intros; first | with_reducible exact ⟨rfl, rfl⟩ | contradiction | (exfalso; omega))
    · intro i i1 i2 ih hj
      have hc := (eSg_is 2 (by decide)).2.2 i.toNat (by have : (eSg (110 + 2)).length = 4 := rfl; omega)
      have g2 := y_charAt w 2 i (by decide) ⟨i1, by have : (eSg (110 + 2)).length = 4 := rfl; omega⟩
      apply tX3_isWord112_28 w i (v := sgC w (w 8 5 + i)) (cv := (eSg (110 + 2)).getD i.toNat 0) (by omega) (sgC_b _ _) hc.2 (y_signAt w _ (by omega) (by omega)) (fun _ => g2)
      · intro _ z
        rw [h5, sg_in hT (by omega)] at z
        refine ih (fun j j1 => ?_)
        by_cases d : (j : Int) = i
        · rw [d, z, show i.toNat = j by omega]; rfl
        · exact hj j (by omega)
      · intro _ z
        rw [h5, sg_in hT (by omega)] at z
        rw [bI_0 (fun q => z ?_)]
        · exact ⟨rfl, rfl⟩
        · have := q.2.2 i.toNat (by have : ([109, 97, 114, 107] : List Int).length = 4 := rfl; omega)
          rw [Int.toNat_of_nonneg i1] at this
          exact this
      · intro z; exfalso; omega
  · intro _ z
    rw [bI_0 (fun q => z ?_)]
    · exact ⟨rfl, rfl⟩
    · have := q.2.1
      rw [show (([109, 97, 114, 107] : List Int).length : Int) = 4 from rfl] at this
      omega
  · intro z
    rw [bI_0 (fun q => z ?_)]
    · exact ⟨rfl, rfl⟩
    · rw [h4]; exact q.1
theorem wd_113 {T : Int → Int} {s : Int} (h : ∀ i : Nat, i < 5 → ltr (T (s + i))) : wdv T s 5 = 8902245 ↔ ∀ j : Nat, j < ([104, 111, 117, 115, 101] : List Int).length → T (s + j) = ([104, 111, 117, 115, 101] : List Int).getD j 0 := by
  have h0 := h 0 (by decide); have h1 := h 1 (by decide); have h2 := h 2 (by decide); have h3 := h 3 (by decide); have h4 := h 4 (by decide)
  unfold ltr at h0 h1 h2 h3 h4
  have ew : wdv T s 5 = (((((((((((((((((((0 * 32) + T (s + (0 : Nat))) - 97) + 1) * 32) + T (s + (1 : Nat))) - 97) + 1) * 32) + T (s + (2 : Nat))) - 97) + 1) * 32) + T (s + (3 : Nat))) - 97) + 1) * 32) + T (s + (4 : Nat))) - 97) + 1 := rfl
  rw [ew]
  constructor
  · intro z j hj
    have hj2 : j < 5 := hj
    have e0 : T (s + (0 : Nat)) = 104 := by omega
    have e1 : T (s + (1 : Nat)) = 111 := by omega
    have e2 : T (s + (2 : Nat)) = 117 := by omega
    have e3 : T (s + (3 : Nat)) = 115 := by omega
    have e4 : T (s + (4 : Nat)) = 101 := by omega
    match j, hj2 with
    | 0, _ => exact e0
    | 1, _ => exact e1
    | 2, _ => exact e2
    | 3, _ => exact e3
    | 4, _ => exact e4
  · intro z
    have e0 : T (s + (0 : Nat)) = 104 := z 0 (by decide)
    have e1 : T (s + (1 : Nat)) = 111 := z 1 (by decide)
    have e2 : T (s + (2 : Nat)) = 117 := z 2 (by decide)
    have e3 : T (s + (3 : Nat)) = 115 := z 3 (by decide)
    have e4 : T (s + (4 : Nat)) = 101 := z 4 (by decide)
    omega
theorem y_isWord113 {T : Int → Int} {n p s e k : Int} {u : eW} (hn : n ≤ 400) (h : TOK T n p s e k) (hf : u 33 7 = 0) (hM : MTK T s e k u) : Cal mX8_isWord [eR 33, eR 113] u (some (0, bI (IW T s e k [104, 111, 117, 115, 101]))) u := by
  have hb := h.b hn
  obtain ⟨m1, m2, m3⟩ := hM
  refine Cal.of (by decide +kernel) (Nat.le_of_ble_eq_true rfl) ?_
  by_cases c : k = 1
  · subst c
    obtain ⟨w1, w2, w3⟩ := h.word
    rcases m3 with ⟨z, -⟩ | ⟨-, q1, q2⟩ | ⟨z, -⟩ | ⟨z, -⟩ | ⟨z, -⟩
    · exact absurd z (by decide)
    · have hwb := wdv_b (T := T) (s := s) (e - s).toNat (fun i hi => w3 _ (by omega) (by omega))
      apply tX8_isWord113_0 u (by omega) (by omega) q1 (by omega)
      · intro _ z1 z2
        have hle : e - s = 5 := by omega
        rw [q2, hle, show (5 : Int).toNat = 5 from rfl, wd_113 (fun i hi => w3 _ (by omega) (by omega))] at z2
        rw [bI_1 ⟨rfl, hle, z2⟩]
        exact ⟨rfl, rfl⟩
      · intro _ z1 z2
        have hle : e - s = 5 := by omega
        rw [q2, hle, show (5 : Int).toNat = 5 from rfl, wd_113 (fun i hi => w3 _ (by omega) (by omega))] at z2
        rw [bI_0 (fun q => z2 q.2.2)]
        exact ⟨rfl, rfl⟩
      · intro _ z1
        rw [bI_0 (fun q => z1 ?_)]
        · exact ⟨rfl, rfl⟩
        · have := q.2.1
          rw [show (([104, 111, 117, 115, 101] : List Int).length : Int) = 5 from rfl] at this
          omega
      · intro z; exact absurd hf z
    · exact absurd z (by decide)
    · omega
    · exact absurd z (by decide)
  · rw [bI_0 (fun q => c q.1)]
    have ht : ¬ u 33 9 = 2 ∧ eI (u 33 9) := by
      rcases m3 with ⟨-, q⟩ | ⟨z, -⟩ | ⟨-, q, -⟩ | ⟨-, q, -⟩ | ⟨-, q⟩
      · omega
      · exact absurd z c
      · omega
      · omega
      · omega
    apply tX8_isWordN113_0 u (by omega) (by omega) ht.1 ht.2 <;> (intros; first | with_reducible exact ⟨rfl, rfl⟩ | contradiction | (exfalso; omega))
theorem wd_114 {T : Int → Int} {s : Int} (h : ∀ i : Nat, i < 5 → ltr (T (s + i))) : wdv T s 5 = 20452516 ↔ ∀ j : Nat, j < ([115, 112, 101, 101, 100] : List Int).length → T (s + j) = ([115, 112, 101, 101, 100] : List Int).getD j 0 := by
  have h0 := h 0 (by decide); have h1 := h 1 (by decide); have h2 := h 2 (by decide); have h3 := h 3 (by decide); have h4 := h 4 (by decide)
  unfold ltr at h0 h1 h2 h3 h4
  have ew : wdv T s 5 = (((((((((((((((((((0 * 32) + T (s + (0 : Nat))) - 97) + 1) * 32) + T (s + (1 : Nat))) - 97) + 1) * 32) + T (s + (2 : Nat))) - 97) + 1) * 32) + T (s + (3 : Nat))) - 97) + 1) * 32) + T (s + (4 : Nat))) - 97) + 1 := rfl
  rw [ew]
  constructor
  · intro z j hj
    have hj2 : j < 5 := hj
    have e0 : T (s + (0 : Nat)) = 115 := by omega
    have e1 : T (s + (1 : Nat)) = 112 := by omega
    have e2 : T (s + (2 : Nat)) = 101 := by omega
    have e3 : T (s + (3 : Nat)) = 101 := by omega
    have e4 : T (s + (4 : Nat)) = 100 := by omega
    match j, hj2 with
    | 0, _ => exact e0
    | 1, _ => exact e1
    | 2, _ => exact e2
    | 3, _ => exact e3
    | 4, _ => exact e4
  · intro z
    have e0 : T (s + (0 : Nat)) = 115 := z 0 (by decide)
    have e1 : T (s + (1 : Nat)) = 112 := z 1 (by decide)
    have e2 : T (s + (2 : Nat)) = 101 := z 2 (by decide)
    have e3 : T (s + (3 : Nat)) = 101 := z 3 (by decide)
    have e4 : T (s + (4 : Nat)) = 100 := z 4 (by decide)
    omega
theorem y_isWord114 {T : Int → Int} {n p s e k : Int} {u : eW} (hn : n ≤ 400) (h : TOK T n p s e k) (hf : u 33 7 = 0) (hM : MTK T s e k u) : Cal mX8_isWord [eR 33, eR 114] u (some (0, bI (IW T s e k [115, 112, 101, 101, 100]))) u := by
  have hb := h.b hn
  obtain ⟨m1, m2, m3⟩ := hM
  refine Cal.of (by decide +kernel) (Nat.le_of_ble_eq_true rfl) ?_
  by_cases c : k = 1
  · subst c
    obtain ⟨w1, w2, w3⟩ := h.word
    rcases m3 with ⟨z, -⟩ | ⟨-, q1, q2⟩ | ⟨z, -⟩ | ⟨z, -⟩ | ⟨z, -⟩
    · exact absurd z (by decide)
    · have hwb := wdv_b (T := T) (s := s) (e - s).toNat (fun i hi => w3 _ (by omega) (by omega))
      apply tX8_isWord114_0 u (by omega) (by omega) q1 (by omega)
      · intro _ z1 z2
        have hle : e - s = 5 := by omega
        rw [q2, hle, show (5 : Int).toNat = 5 from rfl, wd_114 (fun i hi => w3 _ (by omega) (by omega))] at z2
        rw [bI_1 ⟨rfl, hle, z2⟩]
        exact ⟨rfl, rfl⟩
      · intro _ z1 z2
        have hle : e - s = 5 := by omega
        rw [q2, hle, show (5 : Int).toNat = 5 from rfl, wd_114 (fun i hi => w3 _ (by omega) (by omega))] at z2
        rw [bI_0 (fun q => z2 q.2.2)]
        exact ⟨rfl, rfl⟩
      · intro _ z1
        rw [bI_0 (fun q => z1 ?_)]
        · exact ⟨rfl, rfl⟩
        · have := q.2.1
          rw [show (([115, 112, 101, 101, 100] : List Int).length : Int) = 5 from rfl] at this
          omega
      · intro z; exact absurd hf z
    · exact absurd z (by decide)
    · omega
    · exact absurd z (by decide)
  · rw [bI_0 (fun q => c q.1)]
    have ht : ¬ u 33 9 = 2 ∧ eI (u 33 9) := by
      rcases m3 with ⟨-, q⟩ | ⟨z, -⟩ | ⟨-, q, -⟩ | ⟨-, q, -⟩ | ⟨-, q⟩
      · omega
      · exact absurd z c
      · omega
      · omega
      · omega
    apply tX8_isWordN114_0 u (by omega) (by omega) ht.1 ht.2 <;> (intros; first | with_reducible exact ⟨rfl, rfl⟩ | contradiction | (exfalso; omega))
theorem wd_115 {T : Int → Int} {s : Int} (h : ∀ i : Nat, i < 4 → ltr (T (s + i))) : wdv T s 4 = 427595 ↔ ∀ j : Nat, j < ([109, 97, 114, 107] : List Int).length → T (s + j) = ([109, 97, 114, 107] : List Int).getD j 0 := by
  have h0 := h 0 (by decide); have h1 := h 1 (by decide); have h2 := h 2 (by decide); have h3 := h 3 (by decide)
  unfold ltr at h0 h1 h2 h3
  have ew : wdv T s 4 = (((((((((((((((0 * 32) + T (s + (0 : Nat))) - 97) + 1) * 32) + T (s + (1 : Nat))) - 97) + 1) * 32) + T (s + (2 : Nat))) - 97) + 1) * 32) + T (s + (3 : Nat))) - 97) + 1 := rfl
  rw [ew]
  constructor
  · intro z j hj
    have hj2 : j < 4 := hj
    have e0 : T (s + (0 : Nat)) = 109 := by omega
    have e1 : T (s + (1 : Nat)) = 97 := by omega
    have e2 : T (s + (2 : Nat)) = 114 := by omega
    have e3 : T (s + (3 : Nat)) = 107 := by omega
    match j, hj2 with
    | 0, _ => exact e0
    | 1, _ => exact e1
    | 2, _ => exact e2
    | 3, _ => exact e3
  · intro z
    have e0 : T (s + (0 : Nat)) = 109 := z 0 (by decide)
    have e1 : T (s + (1 : Nat)) = 97 := z 1 (by decide)
    have e2 : T (s + (2 : Nat)) = 114 := z 2 (by decide)
    have e3 : T (s + (3 : Nat)) = 107 := z 3 (by decide)
    omega
theorem y_isWord115 {T : Int → Int} {n p s e k : Int} {u : eW} (hn : n ≤ 400) (h : TOK T n p s e k) (hf : u 33 7 = 0) (hM : MTK T s e k u) : Cal mX8_isWord [eR 33, eR 115] u (some (0, bI (IW T s e k [109, 97, 114, 107]))) u := by
  have hb := h.b hn
  obtain ⟨m1, m2, m3⟩ := hM
  refine Cal.of (by decide +kernel) (Nat.le_of_ble_eq_true rfl) ?_
  by_cases c : k = 1
  · subst c
    obtain ⟨w1, w2, w3⟩ := h.word
    rcases m3 with ⟨z, -⟩ | ⟨-, q1, q2⟩ | ⟨z, -⟩ | ⟨z, -⟩ | ⟨z, -⟩
    · exact absurd z (by decide)
    · have hwb := wdv_b (T := T) (s := s) (e - s).toNat (fun i hi => w3 _ (by omega) (by omega))
      apply tX8_isWord115_0 u (by omega) (by omega) q1 (by omega)
      · intro _ z1 z2
        have hle : e - s = 4 := by omega
        rw [q2, hle, show (4 : Int).toNat = 4 from rfl, wd_115 (fun i hi => w3 _ (by omega) (by omega))] at z2
        rw [bI_1 ⟨rfl, hle, z2⟩]
        exact ⟨rfl, rfl⟩
      · intro _ z1 z2
        have hle : e - s = 4 := by omega
        rw [q2, hle, show (4 : Int).toNat = 4 from rfl, wd_115 (fun i hi => w3 _ (by omega) (by omega))] at z2
        rw [bI_0 (fun q => z2 q.2.2)]
        exact ⟨rfl, rfl⟩
      · intro _ z1
        rw [bI_0 (fun q => z1 ?_)]
        · exact ⟨rfl, rfl⟩
        · have := q.2.1
          rw [show (([109, 97, 114, 107] : List Int).length : Int) = 4 from rfl] at this
          omega
      · intro z; exact absurd hf z
    · exact absurd z (by decide)
    · omega
    · exact absurd z (by decide)
  · rw [bI_0 (fun q => c q.1)]
    have ht : ¬ u 33 9 = 2 ∧ eI (u 33 9) := by
      rcases m3 with ⟨-, q⟩ | ⟨z, -⟩ | ⟨-, q, -⟩ | ⟨-, q, -⟩ | ⟨-, q⟩
      · omega
      · exact absurd z c
      · omega
      · omega
      · omega
    apply tX8_isWordN115_0 u (by omega) (by omega) ht.1 ht.2 <;> (intros; first | with_reducible exact ⟨rfl, rfl⟩ | contradiction | (exfalso; omega))
theorem y_isSign {T : Int → Int} {n p s e k : Int} {u : eW} (hn : n ≤ 400) (h : TOK T n p s e k) (hf : u 33 7 = 0) (hM : MTK T s e k u) (c : Int) (hc : c = 44 ∨ c = 47 ∨ c = 59) : Cal mX8_isSign [eR 33, (0, c)] u (some (0, if k = c then 1 else 0)) u := by
  have hb := h.b hn
  obtain ⟨m1, m2, m3⟩ := hM
  refine Cal.of (by decide +kernel) (Nat.le_of_ble_eq_true rfl) ?_
  by_cases d : u 33 9 = 4
  · have e11 : u 33 11 = k := by
      rcases m3 with ⟨-, q⟩ | ⟨-, q, -⟩ | ⟨-, q, -⟩ | ⟨-, -, q⟩ | ⟨-, q⟩
      · omega
      · omega
      · omega
      · exact q
      · omega
    apply tX8_isSign_0 u c (by omega) d (by omega) (by omega)
    · intro _ z; rw [if_pos (by omega)]; exact ⟨rfl, rfl⟩
    · intro _ z; rw [if_neg (by omega)]; exact ⟨rfl, rfl⟩
    · intro z; exact absurd hf z
  · have hk : ¬ k = c ∧ eI (u 33 9) := by
      rcases m3 with ⟨z, q⟩ | ⟨z, q, -⟩ | ⟨z, q, -⟩ | ⟨-, q, -⟩ | ⟨z, q⟩
      · omega
      · omega
      · omega
      · exact absurd q d
      · omega
    rw [if_neg hk.1]
    apply tX8_isSignN_0 u c (by omega) d hk.2 <;> (intros; first | with_reducible exact ⟨rfl, rfl⟩ | contradiction | (exfalso; omega))
theorem y_isSignF {u : eW} (hf : 1 ≤ u 33 7 ∧ u 33 7 ≤ 5) (h9 : eI (u 33 9)) (h11 : u 33 9 = 4 → eI (u 33 11)) (c : Int) (hc : eI c) : Cal mX8_isSign [eR 33, (0, c)] u (some (0, 0)) u := by
  refine Cal.of (by decide +kernel) (Nat.le_of_ble_eq_true rfl) ?_
  by_cases d : u 33 9 = 4
  · have := h11 d
    apply tX8_isSign_0 u c (by omega) d hc this <;> (intros; first | with_reducible exact ⟨rfl, rfl⟩ | contradiction | (exfalso; omega))
  · apply tX8_isSignN_0 u c (by omega) d h9 <;> (intros; first | with_reducible exact ⟨rfl, rfl⟩ | contradiction | (exfalso; omega))

