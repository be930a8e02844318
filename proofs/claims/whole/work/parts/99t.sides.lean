/-! both parsers, side by side -/
def DRF (w : eW) : Prop := (0 ≤ w 9 0 ∧ w 9 0 ≤ 14 ∧ 0 ≤ w 9 1 ∧ w 9 1 ≤ 10 ∧ 0 ≤ w 9 2 ∧ w 9 2 ≤ 8) ∧ (0 ≤ w 8 6 ∧ w 8 6 ≤ 1 ∧ w 8 7 = 0) ∧ (∀ y, 0 ≤ y → y < 10 → (0 ≤ w 10 y ∧ w 10 y < 16384) ∧ ∀ x, 0 ≤ x → x < 14 → bitv (w 10 y) x = 1 → x < w 9 0 ∧ y < w 9 1) ∧ (∀ s, 0 ≤ s → s < 4 → 1 ≤ w 11 s ∧ w 11 s ≤ 9) ∧ (∀ i, 0 ≤ i → i < 16 → 0 ≤ w 12 i ∧ w 12 i ≤ 56) ∧ ∀ k, 0 ≤ k → k < w 9 2 → w 12 (2 * k) ≤ 4 * w 9 0 ∧ w 12 (2 * k + 1) ≤ 4 * w 9 1
def MO7 (u : eW) : Prop := ∀ i, 0 ≤ i → i < 16 → 0 ≤ u 37 i ∧ u 37 i ≤ 56 ∧ (i % 2 = 1 → u 37 i ≤ 40)
def DR (w u : eW) : Prop := (w 9 1 = 0 ∨ u 33 17 = w 9 0) ∧ u 33 18 = w 9 1 ∧ u 33 19 = w 9 2 ∧ u 33 20 = w 8 6 ∧ (∀ x y, 0 ≤ x → x < 14 → 0 ≤ y → y < 10 → u 35 (14 * y + x) = bitv (w 10 y) x) ∧ (∀ s, 0 ≤ s → s < 4 → u 36 s = w 11 s) ∧ (∀ i, 0 ≤ i → i < 2 * w 9 2 → u 37 i = w 12 i) ∧ MO7 u
def MR (T : Int → Int) (n : Int) (w u : eW) : Prop := TpM T n u ∧ u 33 7 = 0 ∧ MTK T (w 8 5) (w 8 3) (w 8 4) u ∧ DR w u
def FC (q pl : Int) (w : eW) : Prop := w 8 7 = q ∧ w 8 8 = pl
/-- what a token's fields hold -/
def TKB (u : eW) : Prop := eI (u 33 9) ∧ (¬ u 33 9 = 4 ∨ eI (u 33 11)) ∧ (¬ u 33 9 = 3 ∨ eI (u 33 12))
def FM (q pl : Int) (u : eW) : Prop := u 33 7 = q ∧ u 33 8 = pl ∧ (1 ≤ q ∧ q ≤ 5) ∧ TKB u ∧ MO7 u
def FrP (u u1 : eW) : Prop := Fr [33, 35, 36, 37] u u1 ∧ ∀ i, i ≤ 5 ∨ 21 ≤ i → u1 33 i = u 33 i
theorem FrP.rf {u : eW} : FrP u u := ⟨Fr.rf, fun _ _ => rfl⟩
theorem FrP.tr {u u1 u2 : eW} (h1 : FrP u u1) (h2 : FrP u1 u2) : FrP u u2 := ⟨h1.1.tr h2.1, fun i hi => (h2.2 i hi).trans (h1.2 i hi)⟩
theorem FrP.put {u u1 : eW} {o : Nat} {i v : Int} (h : FrP u u1) (ho : o = 35 ∨ o = 36 ∨ o = 37 ∨ (o = 33 ∧ 6 ≤ i ∧ i ≤ 20)) : FrP u (eU u1 o i v) := by
  refine ⟨h.1.put (by rcases ho with rfl | rfl | rfl | ⟨rfl, -⟩ <;> decide), fun j hj => ?_⟩
  rcases ho with rfl | rfl | rfl | ⟨rfl, h1, h2⟩
  · rw [eU_ne (by decide)]; exact h.2 j hj
  · rw [eU_ne (by decide)]; exact h.2 j hj
  · rw [eU_ne (by decide)]; exact h.2 j hj
  · rw [eU_get, if_neg (by omega)]; exact h.2 j hj
theorem MD.fp {u u1 : eW} (h : MD u u1) : FrP u u1 := ⟨h.1.mono (by decide), fun i hi => h.2 i (by omega) (by omega) (by omega) (by omega) (by omega) (by omega)⟩
theorem MR.tkb {T : Int → Int} {n p : Int} {w u : eW} (h : MR T n w u) (hk : TOK T n p (w 8 5) (w 8 3) (w 8 4)) : TKB u := by
  obtain ⟨h1, h2, ⟨m1, m2, m3⟩, h4⟩ := h
  have hb := hk.b h1.1.2
  rcases m3 with ⟨z, q⟩ | ⟨z, q, -⟩ | ⟨z, q, q2⟩ | ⟨z, q, q2⟩ | ⟨z, q⟩
  · exact ⟨by omega, Or.inl (by omega), Or.inl (by omega)⟩
  · exact ⟨by omega, Or.inl (by omega), Or.inl (by omega)⟩
  · rw [z] at hk
    have := nmv_w hk
    exact ⟨by omega, Or.inl (by omega), Or.inr (by omega)⟩
  · exact ⟨by omega, Or.inr (by omega), Or.inl (by omega)⟩
  · exact ⟨by omega, Or.inl (by omega), Or.inl (by omega)⟩
/-- a flaw at the token: the model -/
theorem FM.at {T : Int → Int} {n p : Int} {w u : eW} (h : MR T n w u) (hk : TOK T n p (w 8 5) (w 8 3) (w 8 4)) (q : Int) (hq : 1 ≤ q ∧ q ≤ 5) : FM q (w 8 5) (eU (eU u 33 7 q) 33 8 (u 33 10)) := by
  have ht := h.tkb hk
  obtain ⟨h1, h2, ⟨m1, m2, m3⟩, h4⟩ := h
  have e : ∀ i, i ≠ 7 → i ≠ 8 → eU (eU u 33 7 q) 33 8 (u 33 10) 33 i = u 33 i := fun i a b => by rw [eU_get, if_neg b, eU_get, if_neg a]
  refine ⟨by rw [eU_get, if_neg (by decide), eU_get, if_pos rfl], by rw [eU_get, if_pos rfl]; exact m1, hq, ?_, ?_⟩
  · unfold TKB; rw [e 9 (by decide) (by decide), e 11 (by decide) (by decide), e 12 (by decide) (by decide)]; exact ht
  · unfold MO7; rw [eU_ne (by decide), eU_ne (by decide)]; exact h4.2.2.2.2.2.2.2
theorem FrP.at {u : eW} (q pl : Int) : FrP u (eU (eU u 33 7 q) 33 8 pl) := (FrP.rf.put (Or.inr (Or.inr (Or.inr ⟨rfl, by decide, by decide⟩)))).put (Or.inr (Or.inr (Or.inr ⟨rfl, by decide, by decide⟩)))
abbrev xo (c : Int) : Prop := c = 120 ∨ c = 111
def RB (T : Int → Int) (s x b : Int) : Prop := (0 ≤ b ∧ b < 16384) ∧ ∀ i, 0 ≤ i → i < 14 → bitv b i = if i < x ∧ T (s + i) = 120 then 1 else 0
theorem RB_0 (T : Int → Int) (s : Int) : RB T s 0 0 := by
  refine ⟨by decide, fun i i1 i2 => ?_⟩
  rw [if_neg (by omega)]
  unfold bitv
  rw [Int.zero_ediv]
  rfl
theorem RB_1 {T : Int → Int} {s x b : Int} (h : RB T s x b) (hx : 0 ≤ x ∧ x < 14) (ht : T (s + x) = 120) : RB T s (x + 1) (eOr b (1 * 2 ^ x.toNat)) := by
  have hp := e_pow14 (k := x) (by omega)
  have hq : (2 : Int) ^ x.toNat < 16384 := by
    have h1 : (2 : Nat) ^ x.toNat ≤ 2 ^ 13 := Nat.pow_le_pow_right (by decide) (by omega)
    rw [e_two]
    omega
  obtain ⟨hb, hv⟩ := h
  rw [Int.one_mul]
  refine ⟨eOr_lt 14 (by decide) hb ⟨by omega, hq⟩, fun i i1 i2 => ?_⟩
  rw [bitv_or (by omega) (by omega), bitv_pow hx.1 i1, hv i i1 i2]
  by_cases c : i = x
  · subst c
    rw [if_pos (Or.inr (by rw [if_pos rfl])), if_pos ⟨by omega, ht⟩]
  · by_cases d : i < x ∧ T (s + i) = 120
    · rw [if_pos d, if_pos (Or.inl rfl), if_pos ⟨by omega, d.2⟩]
    · rw [if_neg d, if_neg c, if_neg (by decide), if_neg (fun q => d ⟨by omega, q.2⟩)]
theorem RB_2 {T : Int → Int} {s x b : Int} (h : RB T s x b) (ht : ¬ T (s + x) = 120) : RB T s (x + 1) (eOr b 0) := by
  obtain ⟨hb, hv⟩ := h
  refine ⟨eOr_lt 14 (by decide) hb (by decide), fun i i1 i2 => ?_⟩
  have e0 : bitv 0 i = 0 := by unfold bitv; rw [Int.zero_ediv]; rfl
  rw [bitv_or (by omega) (by decide), hv i i1 i2, e0]
  by_cases d : i < x ∧ T (s + i) = 120
  · rw [if_pos d, if_pos (Or.inl rfl), if_pos ⟨by omega, d.2⟩]
  · rw [if_neg d, if_neg (by decide), if_neg (fun q => d ⟨by
      by_cases z : i < x
      · exact z
      · exact absurd (by rw [show x = i by omega]; exact q.2) ht, q.2⟩)]
/-- the class's look at a row's signs -/
theorem c_signs {T : Int → Int} {n sz s : Int} {w : eW} (hT : TpC T n w) (h5 : w 8 5 = s) (hs : 0 ≤ s ∧ s + sz ≤ n) (hz : 0 ≤ sz ∧ sz ≤ 14) : ∀ x : Int, 0 ≤ x → x ≤ sz → ∀ b, RB T s x b → ((∀ j, x ≤ j → j < sz → xo (T (s + j))) ∧ ∃ b', RB T s sz b' ∧ ∀ r w9, Go mX3_readRow 115 [(0, eR 8), (1, (0, sz)), (2, (0, b'))] [] w r w9 → Go mX3_readRow 55 [(0, eR 8), (1, (0, sz)), (2, (0, b)), (3, (0, x))] [] w r w9) ∨ ((¬ ∀ j, x ≤ j → j < sz → xo (T (s + j))) ∧ Go mX3_readRow 55 [(0, eR 8), (1, (0, sz)), (2, (0, b)), (3, (0, x))] [] w (some (0, 0)) (eU (eU w 8 7 2) 8 8 (w 8 5))) := by
  obtain ⟨⟨n0, n4⟩, hn, -⟩ := id hT
  refine loop_up (P := fun x => ∀ b, RB T s x b → ((∀ j, x ≤ j → j < sz → xo (T (s + j))) ∧ ∃ b', RB T s sz b' ∧ ∀ r w9, Go mX3_readRow 115 [(0, eR 8), (1, (0, sz)), (2, (0, b'))] [] w r w9 → Go mX3_readRow 55 [(0, eR 8), (1, (0, sz)), (2, (0, b)), (3, (0, x))] [] w r w9) ∨ ((¬ ∀ j, x ≤ j → j < sz → xo (T (s + j))) ∧ Go mX3_readRow 55 [(0, eR 8), (1, (0, sz)), (2, (0, b)), (3, (0, x))] [] w (some (0, 0)) (eU (eU w 8 7 2) 8 8 (w 8 5)))) 0 sz ?_ ?_
  · intro b hb
    refine Or.inl ⟨fun j j1 j2 => by omega, b, hb, fun r w9 g => ?_⟩
    apply tX3_readRow_55 w sz b sz (by omega) (sgC_b w (w 8 5 + sz)) (y_signAt w _ (by omega) (by omega))
    · intro z; exfalso; omega
    · intro z; exfalso; omega
    · intro z; exfalso; omega
    · intro _; exact g
  · intro x x1 x2 ih b hb
    have gs := y_signAt w (w 8 5 + x) (by omega) (by omega)
    have hv := sgC_b w (w 8 5 + x)
    have ev : sgC w (w 8 5 + x) = T (s + x) := by rw [h5, sg_in hT (by omega)]
    by_cases c1 : T (s + x) = 120
    · rcases ih _ (RB_1 hb (by omega) c1) with ⟨a1, b', a2, a3⟩ | ⟨a1, a2⟩
      · refine Or.inl ⟨fun j j1 j2 => ?_, b', a2, fun r w9 g => ?_⟩
        · by_cases d : j = x
          · rw [d]; exact Or.inl c1
          · exact a1 j (by omega) j2
        · apply tX3_readRow_55 w sz b x (by omega) hv gs
          · intro _ _; exact a3 r w9 g
          all_goals (intros; exfalso; omega)
      · refine Or.inr ⟨fun q => a1 (fun j j1 j2 => q j (by omega) j2), ?_⟩
        apply tX3_readRow_55 w sz b x (by omega) hv gs
        · intro _ _; exact a2
        all_goals (intros; exfalso; omega)
    · by_cases c2 : T (s + x) = 111
      · rcases ih _ (RB_2 hb c1) with ⟨a1, b', a2, a3⟩ | ⟨a1, a2⟩
        · refine Or.inl ⟨fun j j1 j2 => ?_, b', a2, fun r w9 g => ?_⟩
          · by_cases d : j = x
            · rw [d]; exact Or.inr c2
            · exact a1 j (by omega) j2
          · apply tX3_readRow_55 w sz b x (by omega) hv gs
            · intro _ z; exfalso; omega
            · intro _ _ _; exact a3 r w9 g
            all_goals (intros; exfalso; omega)
        · refine Or.inr ⟨fun q => a1 (fun j j1 j2 => q j (by omega) j2), ?_⟩
          apply tX3_readRow_55 w sz b x (by omega) hv gs
          · intro _ z; exfalso; omega
          · intro _ _ _; exact a2
          all_goals (intros; exfalso; omega)
      · refine Or.inr ⟨fun q => ?_, ?_⟩
        · rcases q x (by omega) x2 with z | z
          · exact c1 z
          · exact c2 z
        · apply tX3_readRow_55 w sz b x (by omega) hv gs <;> (intros; first | with_reducible exact ⟨rfl, rfl⟩ | contradiction | (exfalso; omega))
/-- the model's -/
theorem m_signs {T : Int → Int} {n nn s e : Int} {u : eW} (hT : TpM T n u) (h10 : u 33 10 = s) (h6 : u 33 6 = e) (hs : 0 ≤ s ∧ s ≤ e ∧ e ≤ n) : ∀ k : Int, s ≤ k → k ≤ e → ∀ is : Int, is = 0 ∨ is = 1 → ∃ is', ((is' = 1 ∧ is = 1 ∧ ∀ j, k ≤ j → j < e → xo (T j)) ∨ (is' = 0 ∧ ¬ (is = 1 ∧ ∀ j, k ≤ j → j < e → xo (T j)))) ∧ ∀ r w9, Go mX8_readRow 103 [(0, eR 33), (1, (0, nn)), (2, (0, is'))] [] u r w9 → Go mX8_readRow 57 [(0, eR 33), (1, (0, nn)), (2, (0, is)), (3, (0, k))] [] u r w9 := by
  obtain ⟨⟨n0, n4⟩, hn, hT3⟩ := id hT
  refine loop_up (P := fun k => ∀ is : Int, is = 0 ∨ is = 1 → ∃ is', ((is' = 1 ∧ is = 1 ∧ ∀ j, k ≤ j → j < e → xo (T j)) ∨ (is' = 0 ∧ ¬ (is = 1 ∧ ∀ j, k ≤ j → j < e → xo (T j)))) ∧ ∀ r w9, Go mX8_readRow 103 [(0, eR 33), (1, (0, nn)), (2, (0, is'))] [] u r w9 → Go mX8_readRow 57 [(0, eR 33), (1, (0, nn)), (2, (0, is)), (3, (0, k))] [] u r w9) s e ?_ ?_
  · intro is his
    refine ⟨is, ?_, fun r w9 g => tX8_readRowE_57 u nn is e (by omega) (by omega) g⟩
    rcases his with z | z
    · exact Or.inr ⟨z, fun q => by omega⟩
    · exact Or.inl ⟨z, z, fun j j1 j2 => by omega⟩
  · intro k k1 k2 ih is his
    have q := hT3 k (by omega) (by omega)
    have ht : eI (u 34 k) := by rw [q.1]; omega
    have hp : 0 ≤ u 33 10 ∧ u 33 10 ≤ 400 ∧ 0 ≤ u 33 6 ∧ u 33 6 ≤ 400 := by omega
    by_cases c : is = 1 ∧ xo (T k)
    · obtain ⟨is', a1, a2⟩ := ih 1 (Or.inr rfl)
      refine ⟨is', ?_, fun r w9 g => ?_⟩
      · rcases a1 with ⟨b1, -, b2⟩ | ⟨b1, b2⟩
        · refine Or.inl ⟨b1, c.1, fun j j1 j2 => ?_⟩
          by_cases d : j = k
          · rw [d]; exact c.2
          · exact b2 j (by omega) j2
        · exact Or.inr ⟨b1, fun z => b2 ⟨rfl, fun j j1 j2 => z.2 j (by omega) j2⟩⟩
      · apply tX8_readRow_57 u nn is k hp (by omega) (by omega) (by omega) ht
        · intro _ z; exfalso; omega
        · intro _ _ _; exact a2 r w9 g
        · intro _ _ _ _; exact a2 r w9 g
        · intro _ _ z1 z2; rw [q.1] at z1 z2; exact absurd c.2 (fun y => y.elim z1 z2)
        · intro z; exfalso; omega
    · obtain ⟨is', a1, a2⟩ := ih 0 (Or.inl rfl)
      refine ⟨is', ?_, fun r w9 g => ?_⟩
      · rcases a1 with ⟨-, b1, -⟩ | ⟨b1, -⟩
        · exact absurd b1 (by decide)
        · exact Or.inr ⟨b1, fun z => c ⟨z.1, z.2 k (by omega) k2⟩⟩
      · apply tX8_readRow_57 u nn is k hp (by omega) (by omega) (by omega) ht
        · intro _ _; exact a2 r w9 g
        · intro _ z1 z2; rw [q.1] at z2; exact absurd ⟨by omega, Or.inl z2⟩ c
        · intro _ z1 _ z2; rw [q.1] at z2; exact absurd ⟨by omega, Or.inr z2⟩ c
        · intro _ _ _ _; exact a2 r w9 g
        · intro z; exfalso; omega

